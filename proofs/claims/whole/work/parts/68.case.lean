/-! the law's cases, by program: wip/whole/dbL.py -/
section LCS
variable {p : Program} {l : Launch} {e : Env} {R : Room} {s : State} {m : MethodId} {args : Array Value} {below : List Frame} {meth : Method} {c : Code} {H : Heap} {locs : List Loc} {cells slots : Nat} {Q : State → Prop}
variable {D : va_G} {A : Nat → Prop} {ad adV : Nat → Nat} {cA : Nat → ClassId} {b L : Nat} {xs : Nat → Int32}
theorem r0 {n k N : Nat} (h : k = 0) (h1 : n ≤ N) : n + k ≤ N := by omega
theorem r6 {n k N : Nat} (h : k = 0) (h1 : n ≤ N) : n + 6 * k ≤ N := by omega
theorem w0 {n k : Nat} (h : k = 0) : n + k ≤ n := by omega
theorem w6 {n k : Nat} (h : k = 0) : n + 6 * k ≤ n := by omega
theorem w2 {n k : Nat} (h : k = 0) : n + k ≤ n + 2 := by omega
theorem w12 {n k : Nat} (h : k = 0) : n + 6 * k ≤ n + 12 := by omega
theorem lbl {cc : ByteArray} {x : Int32} {pc t y : Nat} {off0 off1 : Int} {ls : Array Slot} {rest : List Value} (hx : p.tables.exec = Jvm.exec) (hb : c.code = cc) (h0 : decode cc pc = .ok (.ifCond .eq off0, 3)) (t0 : (pc : Int) + off0 = (t : Int)) (h1 : decode cc (pc + 3) = .ok (.lconst 1, 1)) (h2 : decode cc (pc + 3 + 1) = .ok (.goto off1, 3)) (t1 : ((pc + 3 + 1 : Nat) : Int) + off1 = (y : Int)) (h3 : decode cc t = .ok (.lconst 0, 1)) (e1 : t + 1 = y)
    (kk : W p l e R s m args below meth c H locs cells slots Q (F0 m y ls (.long (gB x) :: rest))) : W p l e R s m args below meth c H locs cells slots Q (F0 m pc ls (.int x :: rest)) := by
  unfold gB at kk
  refine lv_if_eq hx hb h0 t0 (fun hz => ?_) (fun hz => ?_)
  · rw [if_pos hz] at kk
    refine lv_lconst hx hb h3 (v := 0) rfl ?_
    rw [e1]
    exact kk
  · rw [if_neg hz] at kk
    refine lv_lconst hx hb h1 (v := 1) rfl ?_
    exact lv_goto hx hb h2 t1 kk
def lzW : List (Nat × Jvm.Cond) := [(374, .methodLink RL 134 ⟨RL, "ferry", "(LFerryDraughts;III[J)I"⟩),
  (375, .static ⟨RL, "ferry", "(LFerryDraughts;III[J)I"⟩),
  (376, .codeWith ⟨RL, "ferry", "(LFerryDraughts;III[J)I"⟩ method_3_code 6 (some .int) [(0, 12, 15, 13), (0, 12, 19, 15)]),
  (75, .initialized RL),
  (1283, .methodLink RL 139 (mY m8_ferry)),
  (1284, .instanceMethod (mY m8_ferry)),
  (1285, .selects (mY m8_ferry).cls (mY m8_ferry) (mY m8_ferry)),
  (1275, .methodLink RL 140 (mY m8_thrown)),
  (1276, .instanceMethod (mY m8_thrown)),
  (1277, .selects (mY m8_thrown).cls (mY m8_thrown) (mY m8_thrown)),
  (531, .methodLink RL 143 ⟨RL, "tug", "(LFerryDraughts;II[J)I"⟩),
  (532, .static ⟨RL, "tug", "(LFerryDraughts;II[J)I"⟩),
  (533, .codeWith ⟨RL, "tug", "(LFerryDraughts;II[J)I"⟩ method_4_code 5 (some .int) [(0, 10, 13, 21), (0, 10, 17, 15)]),
  (1337, .methodLink RL 146 (mY m8_tug)),
  (1338, .instanceMethod (mY m8_tug)),
  (1339, .selects (mY m8_tug).cls (mY m8_tug) (mY m8_tug)),
  (587, .methodLink RL 147 ⟨RL, "lock", "(LFerryDraughts;III[J)I"⟩),
  (588, .static ⟨RL, "lock", "(LFerryDraughts;III[J)I"⟩),
  (589, .codeWith ⟨RL, "lock", "(LFerryDraughts;III[J)I"⟩ method_5_code 6 (some .int) [(0, 12, 15, 21), (0, 12, 19, 13), (0, 12, 23, 15)]),
  (1353, .methodLink RL 149 (mY m8_lock)),
  (1354, .instanceMethod (mY m8_lock)),
  (1355, .selects (mY m8_lock).cls (mY m8_lock) (mY m8_lock)),
  (611, .methodLink RL 150 ⟨RL, "fog", "(LFerryDraughts;III[J)I"⟩),
  (612, .static ⟨RL, "fog", "(LFerryDraughts;III[J)I"⟩),
  (613, .codeWith ⟨RL, "fog", "(LFerryDraughts;III[J)I"⟩ method_6_code 6 (some .int) [(0, 12, 15, 21), (0, 12, 19, 13), (0, 12, 23, 15)]),
  (1361, .methodLink RL 152 (mY m8_fog)),
  (1362, .instanceMethod (mY m8_fog)),
  (1363, .selects (mY m8_fog).cls (mY m8_fog) (mY m8_fog)),
  (635, .methodLink RL 153 ⟨RL, "move", "(LFerryDraughts;IIZ[J)I"⟩),
  (636, .static ⟨RL, "move", "(LFerryDraughts;IIZ[J)I"⟩),
  (637, .codeWith ⟨RL, "move", "(LFerryDraughts;IIZ[J)I"⟩ method_7_code 6 (some .int) [(0, 12, 15, 21), (0, 12, 19, 15)]),
  (1369, .methodLink RL 156 (mY m8_move)),
  (1370, .instanceMethod (mY m8_move)),
  (1371, .selects (mY m8_move).cls (mY m8_move) (mY m8_move)),
  (710, .methodLink RL 157 ⟨RL, "pass", "(LFerryDraughts;[J)I"⟩),
  (711, .static ⟨RL, "pass", "(LFerryDraughts;[J)I"⟩),
  (712, .codeWith ⟨RL, "pass", "(LFerryDraughts;[J)I"⟩ method_8_code 3 (some .int) [(0, 8, 11, 15)]),
  (1421, .methodLink RL 160 (mY m8_pass)),
  (1422, .instanceMethod (mY m8_pass)),
  (1423, .selects (mY m8_pass).cls (mY m8_pass) (mY m8_pass)),
  (727, .methodLink RL 161 ⟨RL, "ferryOf", "(LFerryDraughts;II[J)I"⟩),
  (728, .static ⟨RL, "ferryOf", "(LFerryDraughts;II[J)I"⟩),
  (729, .codeWith ⟨RL, "ferryOf", "(LFerryDraughts;II[J)I"⟩ method_9_code 5 (some .int) [(0, 10, 13, 21), (0, 10, 17, 13)]),
  (1433, .methodLink RL 163 (mY m8_ferryOf)),
  (1434, .instanceMethod (mY m8_ferryOf)),
  (1435, .selects (mY m8_ferryOf).cls (mY m8_ferryOf) (mY m8_ferryOf)),
  (740, .methodLink RL 164 ⟨RL, "at", "(LFerryDraughts;II[J)I"⟩),
  (741, .static ⟨RL, "at", "(LFerryDraughts;II[J)I"⟩),
  (742, .codeWith ⟨RL, "at", "(LFerryDraughts;II[J)I"⟩ method_10_code 5 (some .int) [(0, 10, 13, 21)]),
  (1437, .methodLink RL 166 (mY m8_at)),
  (1438, .instanceMethod (mY m8_at)),
  (1439, .selects (mY m8_at).cls (mY m8_at) (mY m8_at)),
  (753, .methodLink RL 167 ⟨RL, "lockAt", "(LFerryDraughts;II[J)I"⟩),
  (754, .static ⟨RL, "lockAt", "(LFerryDraughts;II[J)I"⟩),
  (755, .codeWith ⟨RL, "lockAt", "(LFerryDraughts;II[J)I"⟩ method_11_code 5 (some .int) [(0, 10, 13, 21)]),
  (1441, .methodLink RL 169 (mY m8_lockAt)),
  (1442, .instanceMethod (mY m8_lockAt)),
  (1443, .selects (mY m8_lockAt).cls (mY m8_lockAt) (mY m8_lockAt)),
  (761, .methodLink RL 170 ⟨RL, "isFog", "(LFerryDraughts;II[J)I"⟩),
  (762, .static ⟨RL, "isFog", "(LFerryDraughts;II[J)I"⟩),
  (763, .codeWith ⟨RL, "isFog", "(LFerryDraughts;II[J)I"⟩ method_12_code 5 (some .int) [(0, 17, 20, 21)]),
  (1445, .methodLink RL 172 (mY m8_isFog)),
  (1446, .instanceMethod (mY m8_isFog)),
  (1447, .selects (mY m8_isFog).cls (mY m8_isFog) (mY m8_isFog)),
  (260, .methodLink RL 173 (mY m7_turn)),
  (261, .instanceMethod (mY m7_turn)),
  (262, .selects (mY m7_turn).cls (mY m7_turn) (mY m7_turn)),
  (1449, .methodLink RL 176 (mY m8_turn)),
  (1450, .instanceMethod (mY m8_turn)),
  (1451, .selects (mY m8_turn).cls (mY m8_turn) (mY m8_turn)),
  (769, .methodLink RL 177 ⟨RL, "would", "(LFerryDraughts;IIZ[J)I"⟩),
  (770, .static ⟨RL, "would", "(LFerryDraughts;IIZ[J)I"⟩),
  (771, .codeWith ⟨RL, "would", "(LFerryDraughts;IIZ[J)I"⟩ method_13_code 6 (some .int) [(0, 12, 15, 21)]),
  (1453, .methodLink RL 179 (mY m8_would)),
  (1454, .instanceMethod (mY m8_would)),
  (1455, .selects (mY m8_would).cls (mY m8_would) (mY m8_would)),
  (782, .methodLink RL 180 ⟨RL, "why", "(LFerryDraughts;IIZZ[J)I"⟩),
  (783, .static ⟨RL, "why", "(LFerryDraughts;IIZZ[J)I"⟩),
  (784, .codeWith ⟨RL, "why", "(LFerryDraughts;IIZZ[J)I"⟩ method_14_code 7 (some .int) [(0, 14, 17, 21), (0, 14, 21, 57)]),
  (1457, .methodLink RL 183 (mY m8_why)),
  (1458, .instanceMethod (mY m8_why)),
  (1459, .selects (mY m8_why).cls (mY m8_why) (mY m8_why)),
  (806, .methodLink RL 184 ⟨RL, "to", "(LFerryDraughts;IIZ[J)I"⟩),
  (807, .static ⟨RL, "to", "(LFerryDraughts;IIZ[J)I"⟩),
  (808, .codeWith ⟨RL, "to", "(LFerryDraughts;IIZ[J)I"⟩ method_15_code 6 (some .int) [(0, 12, 15, 21), (0, 12, 19, 57)]),
  (1461, .methodLink RL 186 (mY m8_to)),
  (1462, .instanceMethod (mY m8_to)),
  (1463, .selects (mY m8_to).cls (mY m8_to) (mY m8_to)),
  (814, .methodLink RL 187 ⟨RL, "moves", "(LFerryDraughts;IZ[J)I"⟩),
  (815, .static ⟨RL, "moves", "(LFerryDraughts;IZ[J)I"⟩),
  (816, .codeWith ⟨RL, "moves", "(LFerryDraughts;IZ[J)I"⟩ method_16_code 5 (some .int) [(0, 10, 13, 13)]),
  (1465, .methodLink RL 190 (mY m8_moves)),
  (1466, .instanceMethod (mY m8_moves)),
  (1467, .selects (mY m8_moves).cls (mY m8_moves) (mY m8_moves)),
  (827, .methodLink RL 191 ⟨RL, "captures", "(LFerryDraughts;IZ[J)I"⟩),
  (828, .static ⟨RL, "captures", "(LFerryDraughts;IZ[J)I"⟩),
  (829, .codeWith ⟨RL, "captures", "(LFerryDraughts;IZ[J)I"⟩ method_17_code 5 (some .int) [(0, 10, 13, 13)]),
  (1473, .methodLink RL 193 (mY m8_captures)),
  (1474, .instanceMethod (mY m8_captures)),
  (1475, .selects (mY m8_captures).cls (mY m8_captures) (mY m8_captures)),
  (836, .methodLink RL 194 ⟨RL, "isThreatened", "(LFerryDraughts;I[J)I"⟩),
  (837, .static ⟨RL, "isThreatened", "(LFerryDraughts;I[J)I"⟩),
  (838, .codeWith ⟨RL, "isThreatened", "(LFerryDraughts;I[J)I"⟩ method_18_code 4 (some .int) [(0, 16, 19, 21)]),
  (1477, .methodLink RL 197 (mY m8_isThreatened)),
  (1478, .instanceMethod (mY m8_isThreatened)),
  (1479, .selects (mY m8_isThreatened).cls (mY m8_isThreatened) (mY m8_isThreatened)),
  (844, .methodLink RL 198 ⟨RL, "gain", "(LFerryDraughts;IIZ[J)I"⟩),
  (845, .static ⟨RL, "gain", "(LFerryDraughts;IIZ[J)I"⟩),
  (846, .codeWith ⟨RL, "gain", "(LFerryDraughts;IIZ[J)I"⟩ method_19_code 6 (some .int) [(0, 12, 15, 21), (0, 12, 19, 57)]),
  (1481, .methodLink RL 200 (mY m8_gain)),
  (1482, .instanceMethod (mY m8_gain)),
  (1483, .selects (mY m8_gain).cls (mY m8_gain) (mY m8_gain)),
  (862, .methodLink RL 201 ⟨RL, "best", "(LFerryDraughts;I[J)I"⟩),
  (863, .static ⟨RL, "best", "(LFerryDraughts;I[J)I"⟩),
  (864, .codeWith ⟨RL, "best", "(LFerryDraughts;I[J)I"⟩ method_20_code 4 (some .int) [(0, 9, 12, 13), (0, 9, 15, 57)]),
  (1494, .methodLink RL 203 (mY m8_best)),
  (1495, .instanceMethod (mY m8_best)),
  (1496, .selects (mY m8_best).cls (mY m8_best) (mY m8_best)),
  (872, .methodLink RL 204 ⟨RL, "toLock", "(LFerryDraughts;II[J)I"⟩),
  (873, .static ⟨RL, "toLock", "(LFerryDraughts;II[J)I"⟩),
  (874, .codeWith ⟨RL, "toLock", "(LFerryDraughts;II[J)I"⟩ method_21_code 5 (some .int) [(0, 10, 13, 21), (0, 10, 17, 57)]),
  (1498, .methodLink RL 206 (mY m8_toLock)),
  (1499, .instanceMethod (mY m8_toLock)),
  (1500, .selects (mY m8_toLock).cls (mY m8_toLock) (mY m8_toLock)),
  (884, .methodLink RL 207 ⟨RL, "boldest", "(LFerryDraughts;I[J)I"⟩),
  (885, .static ⟨RL, "boldest", "(LFerryDraughts;I[J)I"⟩),
  (886, .codeWith ⟨RL, "boldest", "(LFerryDraughts;I[J)I"⟩ method_22_code 4 (some .int) [(0, 9, 12, 57)]),
  (1502, .methodLink RL 209 (mY m8_boldest)),
  (1503, .instanceMethod (mY m8_boldest)),
  (1504, .selects (mY m8_boldest).cls (mY m8_boldest) (mY m8_boldest)),
  (899, .methodLink RL 210 ⟨RL, "farthest", "(LFerryDraughts;I[J)I"⟩),
  (900, .static ⟨RL, "farthest", "(LFerryDraughts;I[J)I"⟩),
  (901, .codeWith ⟨RL, "farthest", "(LFerryDraughts;I[J)I"⟩ method_23_code 4 (some .int) [(0, 9, 12, 57)]),
  (1514, .methodLink RL 212 (mY m8_farthest)),
  (1515, .instanceMethod (mY m8_farthest)),
  (1516, .selects (mY m8_farthest).cls (mY m8_farthest) (mY m8_farthest)),
  (914, .methodLink RL 213 ⟨RL, "riverLine", "(LFerryDraughts;I[J)I"⟩),
  (915, .static ⟨RL, "riverLine", "(LFerryDraughts;I[J)I"⟩),
  (916, .codeWith ⟨RL, "riverLine", "(LFerryDraughts;I[J)I"⟩ method_24_code 4 (some .int) [(0, 9, 12, 21)]),
  (1518, .methodLink RL 215 (mY m8_riverLine)),
  (1519, .instanceMethod (mY m8_riverLine)),
  (1520, .selects (mY m8_riverLine).cls (mY m8_riverLine) (mY m8_riverLine)),
  (935, .methodLink RL 216 ⟨RL, "ferryLine", "(LFerryDraughts;I[J)I"⟩),
  (936, .static ⟨RL, "ferryLine", "(LFerryDraughts;I[J)I"⟩),
  (937, .codeWith ⟨RL, "ferryLine", "(LFerryDraughts;I[J)I"⟩ method_25_code 4 (some .int) [(0, 9, 12, 21)]),
  (1530, .methodLink RL 218 (mY m8_ferryLine)),
  (1531, .instanceMethod (mY m8_ferryLine)),
  (1532, .selects (mY m8_ferryLine).cls (mY m8_ferryLine) (mY m8_ferryLine)),
  (950, .methodLink RL 219 ⟨RL, "character", "(LFerryDraughts;I[J)I"⟩),
  (951, .static ⟨RL, "character", "(LFerryDraughts;I[J)I"⟩),
  (952, .codeWith ⟨RL, "character", "(LFerryDraughts;I[J)I"⟩ method_26_code 4 (some .int) [(0, 9, 12, 21)]),
  (1538, .methodLink RL 221 (mY m8_character)),
  (1539, .instanceMethod (mY m8_character)),
  (1540, .selects (mY m8_character).cls (mY m8_character) (mY m8_character)),
  (965, .methodLink RL 222 ⟨RL, "append", "(LFerryDraughts;C[J)I"⟩),
  (966, .static ⟨RL, "append", "(LFerryDraughts;C[J)I"⟩),
  (967, .codeWith ⟨RL, "append", "(LFerryDraughts;C[J)I"⟩ method_27_code 4 (some .int) [(0, 9, 12, 103)]),
  (1542, .methodLink RL 225 (mY m8_append)),
  (1543, .instanceMethod (mY m8_append)),
  (1544, .selects (mY m8_append).cls (mY m8_append) (mY m8_append)),
  (992, .methodLink RL 226 ⟨RL, "run", "(LFerryDraughts;[J)I"⟩),
  (993, .static ⟨RL, "run", "(LFerryDraughts;[J)I"⟩),
  (994, .codeWith ⟨RL, "run", "(LFerryDraughts;[J)I"⟩ method_28_code 3 (some .int) [(0, 8, 11, 13), (0, 8, 14, 15)]),
  (1546, .methodLink RL 228 (mY m8_run)),
  (1547, .instanceMethod (mY m8_run)),
  (1548, .selects (mY m8_run).cls (mY m8_run) (mY m8_run)),
  (272, .methodLink RL 229 (mY m7_errorPosition)),
  (273, .instanceMethod (mY m7_errorPosition)),
  (274, .selects (mY m7_errorPosition).cls (mY m7_errorPosition) (mY m7_errorPosition)),
  (1595, .methodLink RL 232 (mY m8_errorPosition)),
  (1596, .instanceMethod (mY m8_errorPosition)),
  (1597, .selects (mY m8_errorPosition).cls (mY m8_errorPosition) (mY m8_errorPosition)),
  (1118, .methodLink RL 233 ⟨RL, "refusal", "(LFerryDraughts;IZ[J)I"⟩),
  (1119, .static ⟨RL, "refusal", "(LFerryDraughts;IZ[J)I"⟩),
  (1120, .codeWith ⟨RL, "refusal", "(LFerryDraughts;IZ[J)I"⟩ method_29_code 5 (some .int) [(0, 10, 13, 13), (0, 10, 17, 57)]),
  (1279, .methodLink RL 235 (mY m8_refusal)),
  (1280, .instanceMethod (mY m8_refusal)),
  (1281, .selects (mY m8_refusal).cls (mY m8_refusal) (mY m8_refusal)),
  (1133, .methodLink RL 236 ⟨RL, "account", "(LFerryDraughts;I[J)I"⟩),
  (1134, .static ⟨RL, "account", "(LFerryDraughts;I[J)I"⟩),
  (1135, .codeWith ⟨RL, "account", "(LFerryDraughts;I[J)I"⟩ method_30_code 4 (some .int) [(0, 9, 12, 13)]),
  (1599, .methodLink RL 238 (mY m8_account)),
  (1600, .instanceMethod (mY m8_account)),
  (1601, .selects (mY m8_account).cls (mY m8_account) (mY m8_account)),
  (276, .methodLink RL 239 (mY m7_isWell)),
  (277, .instanceMethod (mY m7_isWell)),
  (278, .selects (mY m7_isWell).cls (mY m7_isWell) (mY m7_isWell)),
  (1611, .methodLink RL 243 (mY m8_isWell)),
  (1612, .instanceMethod (mY m8_isWell)),
  (1613, .selects (mY m8_isWell).cls (mY m8_isWell) (mY m8_isWell)),
  (1186, .methodLink RL 251 ⟨RL, "undo", "(LFerryDraughts;[J)I"⟩),
  (1187, .static ⟨RL, "undo", "(LFerryDraughts;[J)I"⟩),
  (1188, .codeWith ⟨RL, "undo", "(LFerryDraughts;[J)I"⟩ method_33_code 3 (some .int) [(0, 8, 11, 103)]),
  (1623, .methodLink RL 253 (mY m8_undo)),
  (1624, .instanceMethod (mY m8_undo)),
  (1625, .selects (mY m8_undo).cls (mY m8_undo) (mY m8_undo)),
  (359, .methodLink RL 254 (mY m7_save)),
  (360, .instanceMethod (mY m7_save)),
  (361, .selects (mY m7_save).cls (mY m7_save) (mY m7_save)),
  (1627, .methodLink RL 257 (mY m8_save)),
  (1628, .instanceMethod (mY m8_save)),
  (1629, .selects (mY m8_save).cls (mY m8_save) (mY m8_save)),
  (1201, .methodLink RL 258 ⟨RL, "restore", "(LFerryDraughts;[J)I"⟩),
  (1202, .static ⟨RL, "restore", "(LFerryDraughts;[J)I"⟩),
  (1203, .codeWith ⟨RL, "restore", "(LFerryDraughts;[J)I"⟩ method_34_code 3 (some .int) [(0, 8, 11, 103)]),
  (1631, .methodLink RL 260 (mY m8_restore)),
  (1632, .instanceMethod (mY m8_restore)),
  (1633, .selects (mY m8_restore).cls (mY m8_restore) (mY m8_restore))]
theorem lz_in : lzW.all (fun q => decide (lw_tbl[q.1]? = some q.2)) = true := by decide +kernel
theorem lz (k : Nat) {n : Nat} {w : Jvm.Cond} (h : lzW[k]? = some (n, w)) : w ∈ lw_tbl := List.mem_of_getElem? (of_decide_eq_true (List.all_eq_true.mp lz_in _ (List.mem_of_getElem? h)))
theorem kc_ferry {B : Int} {τ : SZ} (h : WL B τ) (hB : B + 400 ≤ 100000000) (a1 a2 a3 : Int32) : Cal m7_ferry m8_ferry [.inr a1.toInt, .inr a2.toInt, .inr a3.toInt] ["java/lang/IllegalArgumentException", "java/lang/UnsupportedOperationException"] B τ := by
  exact K_ferry h (by omega) (rgT _) (rgT _) (rgT _)
theorem kc_tug {B : Int} {τ : SZ} (h : WL B τ) (hB : B + 400 ≤ 100000000) (a1 a2 : Int32) : Cal m7_tug m8_tug [.inr a1.toInt, .inr a2.toInt] ["java/lang/IndexOutOfBoundsException", "java/lang/UnsupportedOperationException"] B τ := by
  exact K_tug h (by omega) (rgT _) (rgT _)
theorem kc_lock {B : Int} {τ : SZ} (h : WL B τ) (hB : B + 400 ≤ 100000000) (a1 a2 a3 : Int32) : Cal m7_lock m8_lock [.inr a1.toInt, .inr a2.toInt, .inr a3.toInt] ["java/lang/IndexOutOfBoundsException", "java/lang/IllegalArgumentException", "java/lang/UnsupportedOperationException"] B τ := by
  exact K_lock h (by omega) (rgT _) (rgT _) (rgT _)
theorem kc_fog {B : Int} {τ : SZ} (h : WL B τ) (hB : B + 400 ≤ 100000000) (a1 a2 a3 : Int32) : Cal m7_fog m8_fog [.inr a1.toInt, .inr a2.toInt, .inr a3.toInt] ["java/lang/IndexOutOfBoundsException", "java/lang/IllegalArgumentException", "java/lang/UnsupportedOperationException"] B τ := by
  exact K_fog h (by omega) (rgT _) (rgT _) (rgT _)
theorem kc_move {B : Int} {τ : SZ} (h : WL B τ) (hB : B + 400 ≤ 100000000) (a1 a2 a3 : Int32) : Cal m7_move m8_move [.inr a1.toInt, .inr a2.toInt, .inr (zB a3).toInt] ["java/lang/IndexOutOfBoundsException", "java/lang/UnsupportedOperationException"] B τ := by
  rcases zB_cases a3 with e | e
  · rw [e]; exact K_move_0 h (by omega) (rgT _) (rgT _)
  · rw [e]; exact K_move_1 h (by omega) (rgT _) (rgT _)
theorem kc_pass {B : Int} {τ : SZ} (h : WL B τ) (hB : B + 400 ≤ 100000000) : Cal m7_pass m8_pass [] ["java/lang/UnsupportedOperationException"] B τ := by
  exact K_pass h (by omega)
theorem kc_ferryOf {B : Int} {τ : SZ} (h : WL B τ) (hB : B + 400 ≤ 100000000) (a1 a2 : Int32) : Cal m7_ferryOf m8_ferryOf [.inr a1.toInt, .inr a2.toInt] ["java/lang/IndexOutOfBoundsException", "java/lang/IllegalArgumentException"] B τ := by
  exact K_ferryOf h (by omega) (rgT _) (rgT _)
theorem kc_at {B : Int} {τ : SZ} (h : WL B τ) (hB : B + 400 ≤ 100000000) (a1 a2 : Int32) : Cal m7_at m8_at [.inr a1.toInt, .inr a2.toInt] ["java/lang/IndexOutOfBoundsException"] B τ := by
  exact K_at h (by omega) (rgT _) (rgT _)
theorem kc_lockAt {B : Int} {τ : SZ} (h : WL B τ) (hB : B + 400 ≤ 100000000) (a1 a2 : Int32) : Cal m7_lockAt m8_lockAt [.inr a1.toInt, .inr a2.toInt] ["java/lang/IndexOutOfBoundsException"] B τ := by
  exact K_lockAt h (by omega) (rgT _) (rgT _)
theorem kc_isFog {B : Int} {τ : SZ} (h : WL B τ) (hB : B + 400 ≤ 100000000) (a1 a2 : Int32) : Cal m7_isFog m8_isFog [.inr a1.toInt, .inr a2.toInt] ["java/lang/IndexOutOfBoundsException"] B τ := by
  exact K_isFog h (by omega) (rgT _) (rgT _)
theorem kc_turn {B : Int} {τ : SZ} (h : WL B τ) (hB : B + 400 ≤ 100000000) : Cal m7_turn m8_turn [] [] B τ := by
  exact K_turn h (by omega)
theorem kc_would {B : Int} {τ : SZ} (h : WL B τ) (hB : B + 400 ≤ 100000000) (a1 a2 a3 : Int32) : Cal m7_would m8_would [.inr a1.toInt, .inr a2.toInt, .inr (zB a3).toInt] ["java/lang/IndexOutOfBoundsException"] B τ := by
  rcases zB_cases a3 with e | e
  · rw [e]; exact K_would_0 h (by omega) (rgT _) (rgT _)
  · rw [e]; exact K_would_1 h (by omega) (rgT _) (rgT _)
theorem kc_why {B : Int} {τ : SZ} (h : WL B τ) (hB : B + 400 ≤ 100000000) (a1 a2 a3 a4 : Int32) : Cal m7_why m8_why [.inr a1.toInt, .inr a2.toInt, .inr (zB a3).toInt, .inr (zB a4).toInt] ["java/lang/IndexOutOfBoundsException", "java/util/NoSuchElementException"] B τ := by
  rcases zB_cases a3 with e | e <;> rcases zB_cases a4 with f | f
  · rw [e, f]; exact K_why_0_0 h (by omega) (rgT _) (rgT _)
  · rw [e, f]; exact K_why_0_1 h (by omega) (rgT _) (rgT _)
  · rw [e, f]; exact K_why_1_0 h (by omega) (rgT _) (rgT _)
  · rw [e, f]; exact K_why_1_1 h (by omega) (rgT _) (rgT _)
theorem kc_to {B : Int} {τ : SZ} (h : WL B τ) (hB : B + 400 ≤ 100000000) (a1 a2 a3 : Int32) : Cal m7_to m8_to [.inr a1.toInt, .inr a2.toInt, .inr (zB a3).toInt] ["java/lang/IndexOutOfBoundsException", "java/util/NoSuchElementException"] B τ := by
  rcases zB_cases a3 with e | e
  · rw [e]; exact K_to_0 h (by omega) (rgT _) (rgT _)
  · rw [e]; exact K_to_1 h (by omega) (rgT _) (rgT _)
theorem kc_moves {B : Int} {τ : SZ} (h : WL B τ) (hB : B + 400 ≤ 100000000) (a1 a2 : Int32) : Cal m7_moves m8_moves [.inr a1.toInt, .inr (zB a2).toInt] ["java/lang/IllegalArgumentException"] B τ := by
  rcases zB_cases a2 with e | e
  · rw [e]; exact K_moves_0 h (by omega) (rgT _)
  · rw [e]; exact K_moves_1 h (by omega) (rgT _)
theorem kc_captures {B : Int} {τ : SZ} (h : WL B τ) (hB : B + 400 ≤ 100000000) (a1 a2 : Int32) : Cal m7_captures m8_captures [.inr a1.toInt, .inr (zB a2).toInt] ["java/lang/IllegalArgumentException"] B τ := by
  rcases zB_cases a2 with e | e
  · rw [e]; exact K_captures_0 h (by omega) (rgT _)
  · rw [e]; exact K_captures_1 h (by omega) (rgT _)
theorem kc_isThreatened {B : Int} {τ : SZ} (h : WL B τ) (hB : B + 400 ≤ 100000000) (a1 : Int32) : Cal m7_isThreatened m8_isThreatened [.inr a1.toInt] ["java/lang/IndexOutOfBoundsException"] B τ := by
  exact K_isThreatened h (by omega) (rgT _)
theorem kc_gain {B : Int} {τ : SZ} (h : WL B τ) (hB : B + 400 ≤ 100000000) (a1 a2 a3 : Int32) : Cal m7_gain m8_gain [.inr a1.toInt, .inr a2.toInt, .inr (zB a3).toInt] ["java/lang/IndexOutOfBoundsException", "java/util/NoSuchElementException"] B τ := by
  rcases zB_cases a3 with e | e
  · rw [e]; exact K_gain_0 h (by omega) (rgT _) (rgT _)
  · rw [e]; exact K_gain_1 h (by omega) (rgT _) (rgT _)
theorem kc_best {B : Int} {τ : SZ} (h : WL B τ) (hB : B + 400 ≤ 100000000) (a1 : Int32) : Cal m7_best m8_best [.inr a1.toInt] ["java/lang/IllegalArgumentException", "java/util/NoSuchElementException"] B τ := by
  by_cases e0 : a1.toInt = 0
  · rw [e0]; exact K_best_0 h (by omega)
  by_cases e1 : a1.toInt = 1
  · rw [e1]; exact K_best_1 h (by omega)
  by_cases e2 : a1.toInt = 2
  · rw [e2]; exact K_best_2 h (by omega)
  exact K_best_x h (by omega) (rgT _) (by omega)
theorem kc_toLock {B : Int} {τ : SZ} (h : WL B τ) (hB : B + 400 ≤ 100000000) (a1 a2 : Int32) : Cal m7_toLock m8_toLock [.inr a1.toInt, .inr a2.toInt] ["java/lang/IndexOutOfBoundsException", "java/util/NoSuchElementException"] B τ := by
  exact K_toLock h (by omega) (rgT _) (rgT _)
theorem kc_boldest {B : Int} {τ : SZ} (h : WL B τ) (hB : B + 400 ≤ 100000000) (a1 : Int32) : Cal m7_boldest m8_boldest [.inr a1.toInt] ["java/util/NoSuchElementException"] B τ := by
  exact K_boldest h (by omega) (rgT _)
theorem kc_farthest {B : Int} {τ : SZ} (h : WL B τ) (hB : B + 400 ≤ 100000000) (a1 : Int32) : Cal m7_farthest m8_farthest [.inr a1.toInt] ["java/util/NoSuchElementException"] B τ := by
  exact K_farthest h (by omega) (rgT _)
theorem kc_riverLine {B : Int} {τ : SZ} (h : WL B τ) (hB : B + 400 ≤ 100000000) (a1 : Int32) : Cal m7_riverLine m8_riverLine [.inr a1.toInt] ["java/lang/IndexOutOfBoundsException"] B τ := by
  exact K_riverLine h (by omega) (rgT _)
theorem kc_ferryLine {B : Int} {τ : SZ} (h : WL B τ) (hB : B + 400 ≤ 100000000) (a1 : Int32) : Cal m7_ferryLine m8_ferryLine [.inr a1.toInt] ["java/lang/IndexOutOfBoundsException"] B τ := by
  exact K_ferryLine h (by omega) (rgT _)
theorem kc_character {B : Int} {τ : SZ} (h : WL B τ) (hB : B + 400 ≤ 100000000) (a1 : Int32) : Cal m7_character m8_character [.inr a1.toInt] ["java/lang/IndexOutOfBoundsException"] B τ := by
  exact K_character h (by omega) (rgT _)
theorem kc_append {B : Int} {τ : SZ} (h : WL B τ) (hB : B + 400 ≤ 100000000) (a1 : Int32) : Cal m7_append m8_append [.inr (zC a1).toInt] ["java/lang/IllegalStateException"] B τ := by
  exact K_append h (by omega) (zCR _)
theorem kc_run {B : Int} {τ : SZ} (h : WL B τ) (hB : B + 400 ≤ 100000000) : Cal m7_run m8_run [] ["java/lang/IllegalArgumentException", "java/lang/UnsupportedOperationException"] B τ := by
  exact K_run h (by omega)
theorem kc_errorPosition {B : Int} {τ : SZ} (h : WL B τ) (hB : B + 400 ≤ 100000000) : Cal m7_errorPosition m8_errorPosition [] [] B τ := by
  exact K_errorPosition h (by omega)
theorem kc_refusal {B : Int} {τ : SZ} (h : WL B τ) (hB : B + 400 ≤ 100000000) (a1 a2 : Int32) : Cal m7_refusal m8_refusal [.inr a1.toInt, .inr (zB a2).toInt] ["java/lang/IllegalArgumentException", "java/util/NoSuchElementException"] B τ := by
  rcases zB_cases a2 with e | e
  · rw [e]; exact K_refusal_0 h (by omega) (rgT _)
  · rw [e]; exact K_refusal_1 h (by omega) (rgT _)
theorem kc_account {B : Int} {τ : SZ} (h : WL B τ) (hB : B + 400 ≤ 100000000) (a1 : Int32) : Cal m7_account m8_account [.inr a1.toInt] ["java/lang/IllegalArgumentException"] B τ := by
  by_cases e0 : a1.toInt = 0
  · rw [e0]; exact K_account_0 h (by omega)
  by_cases e1 : a1.toInt = 1
  · rw [e1]; exact K_account_1 h (by omega)
  by_cases e2 : a1.toInt = 2
  · rw [e2]; exact K_account_2 h (by omega)
  by_cases e3 : a1.toInt = 3
  · rw [e3]; exact K_account_3 h (by omega)
  by_cases e4 : a1.toInt = 4
  · rw [e4]; exact K_account_4 h (by omega)
  by_cases e5 : a1.toInt = 5
  · rw [e5]; exact K_account_5 h (by omega)
  by_cases e6 : a1.toInt = 6
  · rw [e6]; exact K_account_6 h (by omega)
  by_cases e7 : a1.toInt = 7
  · rw [e7]; exact K_account_7 h (by omega)
  by_cases e8 : a1.toInt = 8
  · rw [e8]; exact K_account_8 h (by omega)
  by_cases e9 : a1.toInt = 9
  · rw [e9]; exact K_account_9 h (by omega)
  by_cases e10 : a1.toInt = 10
  · rw [e10]; exact K_account_10 h (by omega)
  by_cases e11 : a1.toInt = 11
  · rw [e11]; exact K_account_11 h (by omega)
  by_cases e12 : a1.toInt = 12
  · rw [e12]; exact K_account_12 h (by omega)
  by_cases e13 : a1.toInt = 13
  · rw [e13]; exact K_account_13 h (by omega)
  exact K_account_x h (by omega) (rgT _) (by omega)
theorem kc_isWell {B : Int} {τ : SZ} (h : WL B τ) (hB : B + 400 ≤ 100000000) : Cal m7_isWell m8_isWell [] [] B τ := by
  exact K_isWell h (by omega)
theorem kc_undo {B : Int} {τ : SZ} (h : WL B τ) (hB : B + 400 ≤ 100000000) : Cal m7_undo m8_undo [] ["java/lang/IllegalStateException"] B τ := by
  exact K_undo h (by omega)
theorem kc_save {B : Int} {τ : SZ} (h : WL B τ) (hB : B + 400 ≤ 100000000) : Cal m7_save m8_save [] [] B τ := by
  exact K_save h (by omega)
theorem kc_restore {B : Int} {τ : SZ} (h : WL B τ) (hB : B + 400 ≤ 100000000) : Cal m7_restore m8_restore [] ["java/lang/IllegalStateException"] B τ := by
  exact K_restore h (by omega)
theorem cs_ferry (F : LF D A ad adV cA p l s m args c b L xs) {B : Int} {τ : SZ} (hW : WL B τ) (hB : B + 400 ≤ 100000000) {i : Nat} (hi : i + 5 ≤ L) (hL : L ≤ 2560) {qo qd : Nat} {fo : Nat → Int64} {fd : Nat → UInt64} (hP : va_P D cls9 (LV ad cA qo qd (sz τ) fo fd) H) (hD : va_D A (LV ad cA qo qd (sz τ) fo fd)) (hS : va_S A s.heap H locs) (hc : cells + 2 ≤ room_1.cells) (hs : slots + 12 ≤ room_1.slots) {ls : Array Slot} (hl : lv_has ls 9 [(0, .ref b), (1, .ref (ad 0)), (2, .ref (ad 21)), (3, .ref qo), (4, .ref qd), (5, .int (nI i))])
    (kk : ∀ (τ' : SZ) (fo' : Nat → Int64) (H' : Heap) (locs' : List Loc) (ls' : Array Slot), WL (B + 200) τ' → va_P D cls9 (LV ad cA qo qd (sz τ') fo' fd) H' → va_D A (LV ad cA qo qd (sz τ') fo' fd) → va_S A s.heap H' locs' → lv_has ls' 9 [(0, .ref b), (1, .ref (ad 0)), (2, .ref (ad 21)), (3, .ref qo), (4, .ref qd), (5, .int (nI i))] → W p l e room_1 s m args below meth c H' locs' (cells + 2) (slots + 12) Q (F0 m 2491 ls' [])) : W p l e room_1 s m args below meth c H locs cells slots Q (F0 m 204 ls []) := by
  obtain ⟨hx, hb, hml, hown, hts, hK, hWX, hA, hN, hX, hbl, hbA, hl0⟩ := F
  obtain ⟨r, b', τ1, τ2, hr, hE, hm, ht, hW2, hu, hq⟩ := cal_rr (ad := ad) (cA := cA) (as' := [.inr (xs (i + 1)), .inr (xs (i + 2)), .inr (xs (i + 3))]) (kc_ferry hW hB (xs (i + 1)) (xs (i + 2)) (xs (i + 3))) (by simp only [List.map_cons, List.map_nil, vT1]) (by decide) (by decide)
  refine lv_aload_n hx hb (k := 1) (i := 1) (x := ad 0) (by decide +kernel) rfl (lv_at hl 1 rfl) ?_
  refine lv_aload_n hx hb (k := 0) (i := 0) (x := b) (by decide +kernel) rfl (lv_at hl 0 rfl) ?_
  refine lv_iload hx hb (i := 5) (x := nI i) (by decide +kernel) (lv_at hl 5 rfl) ?_
  refine lv_iconst hx hb (n := 1) (v := 1) (by decide +kernel) rfl ?_
  refine lv_iadd hx hb (x := nI i) (y := 1) (by decide +kernel) ?_
  rw [ia1]
  refine va_sld hx hb hX hbl hbA hS (vp_in_nI (n := i + 1) (by omega) (by omega)) (by decide +kernel) ?_
  rw [nI_clamp (show i + 1 < 2 ^ 31 by omega)]
  refine lv_aload_n hx hb (k := 0) (i := 0) (x := b) (by decide +kernel) rfl (lv_at hl 0 rfl) ?_
  refine lv_iload hx hb (i := 5) (x := nI i) (by decide +kernel) (lv_at hl 5 rfl) ?_
  refine lv_iconst hx hb (n := 2) (v := 2) (by decide +kernel) rfl ?_
  refine lv_iadd hx hb (x := nI i) (y := 2) (by decide +kernel) ?_
  rw [ia2]
  refine va_sld hx hb hX hbl hbA hS (vp_in_nI (n := i + 2) (by omega) (by omega)) (by decide +kernel) ?_
  rw [nI_clamp (show i + 2 < 2 ^ 31 by omega)]
  refine lv_aload_n hx hb (k := 0) (i := 0) (x := b) (by decide +kernel) rfl (lv_at hl 0 rfl) ?_
  refine lv_iload hx hb (i := 5) (x := nI i) (by decide +kernel) (lv_at hl 5 rfl) ?_
  refine lv_iconst hx hb (n := 3) (v := 3) (by decide +kernel) rfl ?_
  refine lv_iadd hx hb (x := nI i) (y := 3) (by decide +kernel) ?_
  rw [ia3]
  refine va_sld hx hb hX hbl hbA hS (vp_in_nI (n := i + 3) (by omega) (by omega)) (by decide +kernel) ?_
  rw [nI_clamp (show i + 3 < 2 ^ 31 by omega)]
  refine lv_aload_n hx hb (k := 3) (i := 3) (x := qo) (by decide +kernel) rfl (lv_at hl 3 rfl) ?_
  refine lm_call (own := RL) (x := 134) (n := 5) (rest := []) (w_ferry (a1 := xs (i + 1)) (a2 := xs (i + 2)) (a3 := xs (i + 3)) (fo := fo) (qo := qo) (X := [(qd, .inl (cA 3, 1, .inr (.inr (.inr (.inl fd)))))]) hl0 hr hE) hx hts hb hown hP hD hK hWX hA hN hS (hl.1.trans hml.symm) (lz 0 rfl) (lz 1 rfl) (lz 2 rfl) (lz 3 rfl) ⟨by decide, by decide, by decide +kernel⟩ rfl ⟨by decide, by decide, hc, hs⟩ (by decide) (by decide +kernel) rfl (fun k W' hG H locs hP hD hS => ?_)
  obtain ⟨fo', rfl, hk, hv⟩ := hu _ _ _ _ _ hG
  refine lv_istore hx hb (i := 6) (lv' := [(6, .int k), (0, .ref b), (1, .ref (ad 0)), (2, .ref (ad 21)), (3, .ref qo), (4, .ref qd), (5, .int (nI i))]) (by decide +kernel) hl (by decide) rfl (fun ls hl => ?_)
  refine lv_aload_n hx hb (k := 2) (i := 2) (x := ad 21) (by decide +kernel) rfl (lv_at hl 3 rfl) ?_
  refine lv_aload_n hx hb (k := 0) (i := 0) (x := b) (by decide +kernel) rfl (lv_at hl 1 rfl) ?_
  refine lv_iload hx hb (i := 5) (x := nI i) (by decide +kernel) (lv_at hl 6 rfl) ?_
  refine lv_iconst hx hb (n := 1) (v := 1) (by decide +kernel) rfl ?_
  refine lv_iadd hx hb (x := nI i) (y := 1) (by decide +kernel) ?_
  rw [ia1]
  refine va_sld hx hb hX hbl hbA hS (vp_in_nI (n := i + 1) (by omega) (by omega)) (by decide +kernel) ?_
  rw [nI_clamp (show i + 1 < 2 ^ 31 by omega)]
  refine lv_aload_n hx hb (k := 0) (i := 0) (x := b) (by decide +kernel) rfl (lv_at hl 1 rfl) ?_
  refine lv_iload hx hb (i := 5) (x := nI i) (by decide +kernel) (lv_at hl 6 rfl) ?_
  refine lv_iconst hx hb (n := 2) (v := 2) (by decide +kernel) rfl ?_
  refine lv_iadd hx hb (x := nI i) (y := 2) (by decide +kernel) ?_
  rw [ia2]
  refine va_sld hx hb hX hbl hbA hS (vp_in_nI (n := i + 2) (by omega) (by omega)) (by decide +kernel) ?_
  rw [nI_clamp (show i + 2 < 2 ^ 31 by omega)]
  refine lv_aload_n hx hb (k := 0) (i := 0) (x := b) (by decide +kernel) rfl (lv_at hl 1 rfl) ?_
  refine lv_iload hx hb (i := 5) (x := nI i) (by decide +kernel) (lv_at hl 6 rfl) ?_
  refine lv_iconst hx hb (n := 3) (v := 3) (by decide +kernel) rfl ?_
  refine lv_iadd hx hb (x := nI i) (y := 3) (by decide +kernel) ?_
  rw [ia3]
  refine va_sld hx hb hX hbl hbA hS (vp_in_nI (n := i + 3) (by omega) (by omega)) (by decide +kernel) ?_
  rw [nI_clamp (show i + 3 < 2 ^ 31 by omega)]
  refine lcall (d := 12) (j := m8_ferry) (a := 21) (as := [.inr (xs (i + 1)), .inr (xs (i + 2)), .inr (xs (i + 3))]) (X := [(qo, .inl (cA 2, 1, .inr (.inl fo'))), (qd, .inl (cA 3, 1, .inr (.inr (.inr (.inl fd)))))]) (own := RL) (x := 139) (rest := []) hl0 hm (by decide) rfl rfl hx hts hb hown hP hD hK hWX hA hS (hl.1.trans hml.symm) (lz 4 rfl) (lz 5 rfl) (lz 6 rfl) ⟨by decide, by decide, r0 rfl hc, r6 rfl hs⟩ (by decide) (by decide +kernel) rfl (fun E τ e => by cases e) (fun v τ e H locs hP hS => ?_)
  cases e
  have hD := wOX_D (τ := sz τ2) hD
  refine W.widen (k := cells + 2) (n := slots + 12) (w0 rfl) (w6 rfl) ?_
  refine W.eq (g2 := F0 m 251 ls [.int b']) rfl ?_
  refine lv_istore hx hb (i := 7) (lv' := [(7, .int b'), (6, .int k), (0, .ref b), (1, .ref (ad 0)), (2, .ref (ad 21)), (3, .ref qo), (4, .ref qd), (5, .int (nI i))]) (by decide +kernel) hl (by decide) rfl (fun ls hl => ?_)
  refine lv_aload_n hx hb (k := 2) (i := 2) (x := ad 21) (by decide +kernel) rfl (lv_at hl 4 rfl) ?_
  refine lcall (d := 12) (j := m8_thrown) (a := 21) (as := []) (X := [(qo, .inl (cA 2, 1, .inr (.inl fo'))), (qd, .inl (cA 3, 1, .inr (.inr (.inr (.inl fd)))))]) (own := RL) (x := 140) (rest := []) hl0 ht (by decide) rfl rfl hx hts hb hown hP hD hK hWX hA hS (hl.1.trans hml.symm) (lz 7 rfl) (lz 8 rfl) (lz 9 rfl) ⟨by decide, by decide, r0 rfl hc, r6 rfl hs⟩ (by decide) (by decide +kernel) rfl (fun E τ e => by cases e) (fun v τ e H locs hP hS => ?_)
  cases e
  have hD := wOX_D (τ := sz τ2) hD
  refine W.widen (k := cells + 2) (n := slots + 12) (w0 rfl) (w6 rfl) ?_
  refine W.eq (g2 := F0 m 257 ls [.int (iI (τ2 21 7))]) rfl ?_
  refine lv_iload hx hb (i := 6) (x := k) (by decide +kernel) (lv_at hl 1 rfl) ?_
  refine lv_icmp_eq hx hb (off := 5) (tgt := 264) (by decide +kernel) (by decide) (fun _ => ?_) (fun h => absurd hk h)
  refine lv_iload hx hb (i := 6) (x := k) (by decide +kernel) (lv_at hl 1 rfl) ?_
  have fin : ∀ pc9 : Nat, pc9 = 281 → W p l e room_1 s m args below meth c H locs (cells + 2) (slots + 12) Q (F0 m pc9 ls []) := by
    rintro _ rfl
    refine lv_goto hx hb (off := 2210) (tgt := 2491) (by decide +kernel) (by decide) ?_
    exact kk τ2 fo' _ _ _ hW2 hP hD hS (lv_sub hl [2, 3, 4, 5, 6, 7] rfl)
  refine lv_if_ne hx hb (off := 15) (tgt := 281) (by decide +kernel) (by decide) (fun _ => fin _ rfl) (fun hk0 => ?_)
  refine lv_aload_n hx hb (k := 3) (i := 3) (x := qo) (by decide +kernel) rfl (lv_at hl 5 rfl) ?_
  refine lv_iconst hx hb (n := 0) (v := 0) (by decide +kernel) rfl ?_
  refine va_lald hx hb hK hP (31 + 0) 2 (wOX_get (j := 0) rfl) rfl vp01 (by decide +kernel) ?_
  refine lv_iload hx hb (i := 7) (x := b') (by decide +kernel) (lv_at hl 0 rfl) ?_
  refine lv_i2l hx hb (by decide +kernel) rfl ?_
  refine W.lcmp hx hb (by decide +kernel) ?_
  refine lv_if_eq hx hb (off := 5) (tgt := 281) (by decide +kernel) (by decide) (fun _ => fin _ rfl) (fun h => absurd (gcmp (hv hk0)) h)
theorem cs_tug (F : LF D A ad adV cA p l s m args c b L xs) {B : Int} {τ : SZ} (hW : WL B τ) (hB : B + 400 ≤ 100000000) {i : Nat} (hi : i + 5 ≤ L) (hL : L ≤ 2560) {qo qd : Nat} {fo : Nat → Int64} {fd : Nat → UInt64} (hP : va_P D cls9 (LV ad cA qo qd (sz τ) fo fd) H) (hD : va_D A (LV ad cA qo qd (sz τ) fo fd)) (hS : va_S A s.heap H locs) (hc : cells + 2 ≤ room_1.cells) (hs : slots + 12 ≤ room_1.slots) {ls : Array Slot} (hl : lv_has ls 9 [(0, .ref b), (1, .ref (ad 0)), (2, .ref (ad 21)), (3, .ref qo), (4, .ref qd), (5, .int (nI i))])
    (kk : ∀ (τ' : SZ) (fo' : Nat → Int64) (H' : Heap) (locs' : List Loc) (ls' : Array Slot), WL (B + 200) τ' → va_P D cls9 (LV ad cA qo qd (sz τ') fo' fd) H' → va_D A (LV ad cA qo qd (sz τ') fo' fd) → va_S A s.heap H' locs' → lv_has ls' 9 [(0, .ref b), (1, .ref (ad 0)), (2, .ref (ad 21)), (3, .ref qo), (4, .ref qd), (5, .int (nI i))] → W p l e room_1 s m args below meth c H' locs' (cells + 2) (slots + 12) Q (F0 m 2491 ls' [])) : W p l e room_1 s m args below meth c H locs cells slots Q (F0 m 284 ls []) := by
  obtain ⟨hx, hb, hml, hown, hts, hK, hWX, hA, hN, hX, hbl, hbA, hl0⟩ := F
  obtain ⟨r, b', τ1, τ2, hr, hE, hm, ht, hW2, hu, hq⟩ := cal_rr (ad := ad) (cA := cA) (as' := [.inr (xs (i + 1)), .inr (xs (i + 2))]) (kc_tug hW hB (xs (i + 1)) (xs (i + 2))) (by simp only [List.map_cons, List.map_nil, vT1]) (by decide) (by decide)
  refine lv_aload_n hx hb (k := 1) (i := 1) (x := ad 0) (by decide +kernel) rfl (lv_at hl 1 rfl) ?_
  refine lv_aload_n hx hb (k := 0) (i := 0) (x := b) (by decide +kernel) rfl (lv_at hl 0 rfl) ?_
  refine lv_iload hx hb (i := 5) (x := nI i) (by decide +kernel) (lv_at hl 5 rfl) ?_
  refine lv_iconst hx hb (n := 1) (v := 1) (by decide +kernel) rfl ?_
  refine lv_iadd hx hb (x := nI i) (y := 1) (by decide +kernel) ?_
  rw [ia1]
  refine va_sld hx hb hX hbl hbA hS (vp_in_nI (n := i + 1) (by omega) (by omega)) (by decide +kernel) ?_
  rw [nI_clamp (show i + 1 < 2 ^ 31 by omega)]
  refine lv_aload_n hx hb (k := 0) (i := 0) (x := b) (by decide +kernel) rfl (lv_at hl 0 rfl) ?_
  refine lv_iload hx hb (i := 5) (x := nI i) (by decide +kernel) (lv_at hl 5 rfl) ?_
  refine lv_iconst hx hb (n := 2) (v := 2) (by decide +kernel) rfl ?_
  refine lv_iadd hx hb (x := nI i) (y := 2) (by decide +kernel) ?_
  rw [ia2]
  refine va_sld hx hb hX hbl hbA hS (vp_in_nI (n := i + 2) (by omega) (by omega)) (by decide +kernel) ?_
  rw [nI_clamp (show i + 2 < 2 ^ 31 by omega)]
  refine lv_aload_n hx hb (k := 3) (i := 3) (x := qo) (by decide +kernel) rfl (lv_at hl 3 rfl) ?_
  refine lm_call (own := RL) (x := 143) (n := 4) (rest := []) (w_tug (a1 := xs (i + 1)) (a2 := xs (i + 2)) (fo := fo) (qo := qo) (X := [(qd, .inl (cA 3, 1, .inr (.inr (.inr (.inl fd)))))]) hl0 hr hE) hx hts hb hown hP hD hK hWX hA hN hS (hl.1.trans hml.symm) (lz 10 rfl) (lz 11 rfl) (lz 12 rfl) (lz 3 rfl) ⟨by decide, by decide, by decide +kernel⟩ rfl ⟨by decide, by decide, hc, hs⟩ (by decide) (by decide +kernel) rfl (fun k W' hG H locs hP hD hS => ?_)
  obtain ⟨fo', rfl, hk, hv⟩ := hu _ _ _ _ _ hG
  refine lv_istore hx hb (i := 6) (lv' := [(6, .int k), (0, .ref b), (1, .ref (ad 0)), (2, .ref (ad 21)), (3, .ref qo), (4, .ref qd), (5, .int (nI i))]) (by decide +kernel) hl (by decide) rfl (fun ls hl => ?_)
  refine lv_aload_n hx hb (k := 2) (i := 2) (x := ad 21) (by decide +kernel) rfl (lv_at hl 3 rfl) ?_
  refine lv_aload_n hx hb (k := 0) (i := 0) (x := b) (by decide +kernel) rfl (lv_at hl 1 rfl) ?_
  refine lv_iload hx hb (i := 5) (x := nI i) (by decide +kernel) (lv_at hl 6 rfl) ?_
  refine lv_iconst hx hb (n := 1) (v := 1) (by decide +kernel) rfl ?_
  refine lv_iadd hx hb (x := nI i) (y := 1) (by decide +kernel) ?_
  rw [ia1]
  refine va_sld hx hb hX hbl hbA hS (vp_in_nI (n := i + 1) (by omega) (by omega)) (by decide +kernel) ?_
  rw [nI_clamp (show i + 1 < 2 ^ 31 by omega)]
  refine lv_aload_n hx hb (k := 0) (i := 0) (x := b) (by decide +kernel) rfl (lv_at hl 1 rfl) ?_
  refine lv_iload hx hb (i := 5) (x := nI i) (by decide +kernel) (lv_at hl 6 rfl) ?_
  refine lv_iconst hx hb (n := 2) (v := 2) (by decide +kernel) rfl ?_
  refine lv_iadd hx hb (x := nI i) (y := 2) (by decide +kernel) ?_
  rw [ia2]
  refine va_sld hx hb hX hbl hbA hS (vp_in_nI (n := i + 2) (by omega) (by omega)) (by decide +kernel) ?_
  rw [nI_clamp (show i + 2 < 2 ^ 31 by omega)]
  refine lcall (d := 12) (j := m8_tug) (a := 21) (as := [.inr (xs (i + 1)), .inr (xs (i + 2))]) (X := [(qo, .inl (cA 2, 1, .inr (.inl fo'))), (qd, .inl (cA 3, 1, .inr (.inr (.inr (.inl fd)))))]) (own := RL) (x := 146) (rest := []) hl0 hm (by decide) rfl rfl hx hts hb hown hP hD hK hWX hA hS (hl.1.trans hml.symm) (lz 13 rfl) (lz 14 rfl) (lz 15 rfl) ⟨by decide, by decide, r0 rfl hc, r6 rfl hs⟩ (by decide) (by decide +kernel) rfl (fun E τ e => by cases e) (fun v τ e H locs hP hS => ?_)
  cases e
  have hD := wOX_D (τ := sz τ2) hD
  refine W.widen (k := cells + 2) (n := slots + 12) (w0 rfl) (w6 rfl) ?_
  refine W.eq (g2 := F0 m 319 ls [.int b']) rfl ?_
  refine lv_istore hx hb (i := 7) (lv' := [(7, .int b'), (6, .int k), (0, .ref b), (1, .ref (ad 0)), (2, .ref (ad 21)), (3, .ref qo), (4, .ref qd), (5, .int (nI i))]) (by decide +kernel) hl (by decide) rfl (fun ls hl => ?_)
  refine lv_aload_n hx hb (k := 2) (i := 2) (x := ad 21) (by decide +kernel) rfl (lv_at hl 4 rfl) ?_
  refine lcall (d := 12) (j := m8_thrown) (a := 21) (as := []) (X := [(qo, .inl (cA 2, 1, .inr (.inl fo'))), (qd, .inl (cA 3, 1, .inr (.inr (.inr (.inl fd)))))]) (own := RL) (x := 140) (rest := []) hl0 ht (by decide) rfl rfl hx hts hb hown hP hD hK hWX hA hS (hl.1.trans hml.symm) (lz 7 rfl) (lz 8 rfl) (lz 9 rfl) ⟨by decide, by decide, r0 rfl hc, r6 rfl hs⟩ (by decide) (by decide +kernel) rfl (fun E τ e => by cases e) (fun v τ e H locs hP hS => ?_)
  cases e
  have hD := wOX_D (τ := sz τ2) hD
  refine W.widen (k := cells + 2) (n := slots + 12) (w0 rfl) (w6 rfl) ?_
  refine W.eq (g2 := F0 m 325 ls [.int (iI (τ2 21 7))]) rfl ?_
  refine lv_iload hx hb (i := 6) (x := k) (by decide +kernel) (lv_at hl 1 rfl) ?_
  refine lv_icmp_eq hx hb (off := 5) (tgt := 332) (by decide +kernel) (by decide) (fun _ => ?_) (fun h => absurd hk h)
  refine lv_iload hx hb (i := 6) (x := k) (by decide +kernel) (lv_at hl 1 rfl) ?_
  have fin : ∀ pc9 : Nat, pc9 = 349 → W p l e room_1 s m args below meth c H locs (cells + 2) (slots + 12) Q (F0 m pc9 ls []) := by
    rintro _ rfl
    refine lv_goto hx hb (off := 2142) (tgt := 2491) (by decide +kernel) (by decide) ?_
    exact kk τ2 fo' _ _ _ hW2 hP hD hS (lv_sub hl [2, 3, 4, 5, 6, 7] rfl)
  refine lv_if_ne hx hb (off := 15) (tgt := 349) (by decide +kernel) (by decide) (fun _ => fin _ rfl) (fun hk0 => ?_)
  refine lv_aload_n hx hb (k := 3) (i := 3) (x := qo) (by decide +kernel) rfl (lv_at hl 5 rfl) ?_
  refine lv_iconst hx hb (n := 0) (v := 0) (by decide +kernel) rfl ?_
  refine va_lald hx hb hK hP (31 + 0) 2 (wOX_get (j := 0) rfl) rfl vp01 (by decide +kernel) ?_
  refine lv_iload hx hb (i := 7) (x := b') (by decide +kernel) (lv_at hl 0 rfl) ?_
  refine lv_i2l hx hb (by decide +kernel) rfl ?_
  refine W.lcmp hx hb (by decide +kernel) ?_
  refine lv_if_eq hx hb (off := 5) (tgt := 349) (by decide +kernel) (by decide) (fun _ => fin _ rfl) (fun h => absurd (gcmp (hv hk0)) h)
theorem cs_lock (F : LF D A ad adV cA p l s m args c b L xs) {B : Int} {τ : SZ} (hW : WL B τ) (hB : B + 400 ≤ 100000000) {i : Nat} (hi : i + 5 ≤ L) (hL : L ≤ 2560) {qo qd : Nat} {fo : Nat → Int64} {fd : Nat → UInt64} (hP : va_P D cls9 (LV ad cA qo qd (sz τ) fo fd) H) (hD : va_D A (LV ad cA qo qd (sz τ) fo fd)) (hS : va_S A s.heap H locs) (hc : cells + 2 ≤ room_1.cells) (hs : slots + 12 ≤ room_1.slots) {ls : Array Slot} (hl : lv_has ls 9 [(0, .ref b), (1, .ref (ad 0)), (2, .ref (ad 21)), (3, .ref qo), (4, .ref qd), (5, .int (nI i))])
    (kk : ∀ (τ' : SZ) (fo' : Nat → Int64) (H' : Heap) (locs' : List Loc) (ls' : Array Slot), WL (B + 200) τ' → va_P D cls9 (LV ad cA qo qd (sz τ') fo' fd) H' → va_D A (LV ad cA qo qd (sz τ') fo' fd) → va_S A s.heap H' locs' → lv_has ls' 9 [(0, .ref b), (1, .ref (ad 0)), (2, .ref (ad 21)), (3, .ref qo), (4, .ref qd), (5, .int (nI i))] → W p l e room_1 s m args below meth c H' locs' (cells + 2) (slots + 12) Q (F0 m 2491 ls' [])) : W p l e room_1 s m args below meth c H locs cells slots Q (F0 m 352 ls []) := by
  obtain ⟨hx, hb, hml, hown, hts, hK, hWX, hA, hN, hX, hbl, hbA, hl0⟩ := F
  obtain ⟨r, b', τ1, τ2, hr, hE, hm, ht, hW2, hu, hq⟩ := cal_rr (ad := ad) (cA := cA) (as' := [.inr (xs (i + 1)), .inr (xs (i + 2)), .inr (xs (i + 3))]) (kc_lock hW hB (xs (i + 1)) (xs (i + 2)) (xs (i + 3))) (by simp only [List.map_cons, List.map_nil, vT1]) (by decide) (by decide)
  refine lv_aload_n hx hb (k := 1) (i := 1) (x := ad 0) (by decide +kernel) rfl (lv_at hl 1 rfl) ?_
  refine lv_aload_n hx hb (k := 0) (i := 0) (x := b) (by decide +kernel) rfl (lv_at hl 0 rfl) ?_
  refine lv_iload hx hb (i := 5) (x := nI i) (by decide +kernel) (lv_at hl 5 rfl) ?_
  refine lv_iconst hx hb (n := 1) (v := 1) (by decide +kernel) rfl ?_
  refine lv_iadd hx hb (x := nI i) (y := 1) (by decide +kernel) ?_
  rw [ia1]
  refine va_sld hx hb hX hbl hbA hS (vp_in_nI (n := i + 1) (by omega) (by omega)) (by decide +kernel) ?_
  rw [nI_clamp (show i + 1 < 2 ^ 31 by omega)]
  refine lv_aload_n hx hb (k := 0) (i := 0) (x := b) (by decide +kernel) rfl (lv_at hl 0 rfl) ?_
  refine lv_iload hx hb (i := 5) (x := nI i) (by decide +kernel) (lv_at hl 5 rfl) ?_
  refine lv_iconst hx hb (n := 2) (v := 2) (by decide +kernel) rfl ?_
  refine lv_iadd hx hb (x := nI i) (y := 2) (by decide +kernel) ?_
  rw [ia2]
  refine va_sld hx hb hX hbl hbA hS (vp_in_nI (n := i + 2) (by omega) (by omega)) (by decide +kernel) ?_
  rw [nI_clamp (show i + 2 < 2 ^ 31 by omega)]
  refine lv_aload_n hx hb (k := 0) (i := 0) (x := b) (by decide +kernel) rfl (lv_at hl 0 rfl) ?_
  refine lv_iload hx hb (i := 5) (x := nI i) (by decide +kernel) (lv_at hl 5 rfl) ?_
  refine lv_iconst hx hb (n := 3) (v := 3) (by decide +kernel) rfl ?_
  refine lv_iadd hx hb (x := nI i) (y := 3) (by decide +kernel) ?_
  rw [ia3]
  refine va_sld hx hb hX hbl hbA hS (vp_in_nI (n := i + 3) (by omega) (by omega)) (by decide +kernel) ?_
  rw [nI_clamp (show i + 3 < 2 ^ 31 by omega)]
  refine lv_aload_n hx hb (k := 3) (i := 3) (x := qo) (by decide +kernel) rfl (lv_at hl 3 rfl) ?_
  refine lm_call (own := RL) (x := 147) (n := 5) (rest := []) (w_lock (a1 := xs (i + 1)) (a2 := xs (i + 2)) (a3 := xs (i + 3)) (fo := fo) (qo := qo) (X := [(qd, .inl (cA 3, 1, .inr (.inr (.inr (.inl fd)))))]) hl0 hr hE) hx hts hb hown hP hD hK hWX hA hN hS (hl.1.trans hml.symm) (lz 16 rfl) (lz 17 rfl) (lz 18 rfl) (lz 3 rfl) ⟨by decide, by decide, by decide +kernel⟩ rfl ⟨by decide, by decide, hc, hs⟩ (by decide) (by decide +kernel) rfl (fun k W' hG H locs hP hD hS => ?_)
  obtain ⟨fo', rfl, hk, hv⟩ := hu _ _ _ _ _ hG
  refine lv_istore hx hb (i := 6) (lv' := [(6, .int k), (0, .ref b), (1, .ref (ad 0)), (2, .ref (ad 21)), (3, .ref qo), (4, .ref qd), (5, .int (nI i))]) (by decide +kernel) hl (by decide) rfl (fun ls hl => ?_)
  refine lv_aload_n hx hb (k := 2) (i := 2) (x := ad 21) (by decide +kernel) rfl (lv_at hl 3 rfl) ?_
  refine lv_aload_n hx hb (k := 0) (i := 0) (x := b) (by decide +kernel) rfl (lv_at hl 1 rfl) ?_
  refine lv_iload hx hb (i := 5) (x := nI i) (by decide +kernel) (lv_at hl 6 rfl) ?_
  refine lv_iconst hx hb (n := 1) (v := 1) (by decide +kernel) rfl ?_
  refine lv_iadd hx hb (x := nI i) (y := 1) (by decide +kernel) ?_
  rw [ia1]
  refine va_sld hx hb hX hbl hbA hS (vp_in_nI (n := i + 1) (by omega) (by omega)) (by decide +kernel) ?_
  rw [nI_clamp (show i + 1 < 2 ^ 31 by omega)]
  refine lv_aload_n hx hb (k := 0) (i := 0) (x := b) (by decide +kernel) rfl (lv_at hl 1 rfl) ?_
  refine lv_iload hx hb (i := 5) (x := nI i) (by decide +kernel) (lv_at hl 6 rfl) ?_
  refine lv_iconst hx hb (n := 2) (v := 2) (by decide +kernel) rfl ?_
  refine lv_iadd hx hb (x := nI i) (y := 2) (by decide +kernel) ?_
  rw [ia2]
  refine va_sld hx hb hX hbl hbA hS (vp_in_nI (n := i + 2) (by omega) (by omega)) (by decide +kernel) ?_
  rw [nI_clamp (show i + 2 < 2 ^ 31 by omega)]
  refine lv_aload_n hx hb (k := 0) (i := 0) (x := b) (by decide +kernel) rfl (lv_at hl 1 rfl) ?_
  refine lv_iload hx hb (i := 5) (x := nI i) (by decide +kernel) (lv_at hl 6 rfl) ?_
  refine lv_iconst hx hb (n := 3) (v := 3) (by decide +kernel) rfl ?_
  refine lv_iadd hx hb (x := nI i) (y := 3) (by decide +kernel) ?_
  rw [ia3]
  refine va_sld hx hb hX hbl hbA hS (vp_in_nI (n := i + 3) (by omega) (by omega)) (by decide +kernel) ?_
  rw [nI_clamp (show i + 3 < 2 ^ 31 by omega)]
  refine lcall (d := 12) (j := m8_lock) (a := 21) (as := [.inr (xs (i + 1)), .inr (xs (i + 2)), .inr (xs (i + 3))]) (X := [(qo, .inl (cA 2, 1, .inr (.inl fo'))), (qd, .inl (cA 3, 1, .inr (.inr (.inr (.inl fd)))))]) (own := RL) (x := 149) (rest := []) hl0 hm (by decide) rfl rfl hx hts hb hown hP hD hK hWX hA hS (hl.1.trans hml.symm) (lz 19 rfl) (lz 20 rfl) (lz 21 rfl) ⟨by decide, by decide, r0 rfl hc, r6 rfl hs⟩ (by decide) (by decide +kernel) rfl (fun E τ e => by cases e) (fun v τ e H locs hP hS => ?_)
  cases e
  have hD := wOX_D (τ := sz τ2) hD
  refine W.widen (k := cells + 2) (n := slots + 12) (w0 rfl) (w6 rfl) ?_
  refine W.eq (g2 := F0 m 399 ls [.int b']) rfl ?_
  refine lv_istore hx hb (i := 7) (lv' := [(7, .int b'), (6, .int k), (0, .ref b), (1, .ref (ad 0)), (2, .ref (ad 21)), (3, .ref qo), (4, .ref qd), (5, .int (nI i))]) (by decide +kernel) hl (by decide) rfl (fun ls hl => ?_)
  refine lv_aload_n hx hb (k := 2) (i := 2) (x := ad 21) (by decide +kernel) rfl (lv_at hl 4 rfl) ?_
  refine lcall (d := 12) (j := m8_thrown) (a := 21) (as := []) (X := [(qo, .inl (cA 2, 1, .inr (.inl fo'))), (qd, .inl (cA 3, 1, .inr (.inr (.inr (.inl fd)))))]) (own := RL) (x := 140) (rest := []) hl0 ht (by decide) rfl rfl hx hts hb hown hP hD hK hWX hA hS (hl.1.trans hml.symm) (lz 7 rfl) (lz 8 rfl) (lz 9 rfl) ⟨by decide, by decide, r0 rfl hc, r6 rfl hs⟩ (by decide) (by decide +kernel) rfl (fun E τ e => by cases e) (fun v τ e H locs hP hS => ?_)
  cases e
  have hD := wOX_D (τ := sz τ2) hD
  refine W.widen (k := cells + 2) (n := slots + 12) (w0 rfl) (w6 rfl) ?_
  refine W.eq (g2 := F0 m 405 ls [.int (iI (τ2 21 7))]) rfl ?_
  refine lv_iload hx hb (i := 6) (x := k) (by decide +kernel) (lv_at hl 1 rfl) ?_
  refine lv_icmp_eq hx hb (off := 5) (tgt := 412) (by decide +kernel) (by decide) (fun _ => ?_) (fun h => absurd hk h)
  refine lv_iload hx hb (i := 6) (x := k) (by decide +kernel) (lv_at hl 1 rfl) ?_
  have fin : ∀ pc9 : Nat, pc9 = 429 → W p l e room_1 s m args below meth c H locs (cells + 2) (slots + 12) Q (F0 m pc9 ls []) := by
    rintro _ rfl
    refine lv_goto hx hb (off := 2062) (tgt := 2491) (by decide +kernel) (by decide) ?_
    exact kk τ2 fo' _ _ _ hW2 hP hD hS (lv_sub hl [2, 3, 4, 5, 6, 7] rfl)
  refine lv_if_ne hx hb (off := 15) (tgt := 429) (by decide +kernel) (by decide) (fun _ => fin _ rfl) (fun hk0 => ?_)
  refine lv_aload_n hx hb (k := 3) (i := 3) (x := qo) (by decide +kernel) rfl (lv_at hl 5 rfl) ?_
  refine lv_iconst hx hb (n := 0) (v := 0) (by decide +kernel) rfl ?_
  refine va_lald hx hb hK hP (31 + 0) 2 (wOX_get (j := 0) rfl) rfl vp01 (by decide +kernel) ?_
  refine lv_iload hx hb (i := 7) (x := b') (by decide +kernel) (lv_at hl 0 rfl) ?_
  refine lv_i2l hx hb (by decide +kernel) rfl ?_
  refine W.lcmp hx hb (by decide +kernel) ?_
  refine lv_if_eq hx hb (off := 5) (tgt := 429) (by decide +kernel) (by decide) (fun _ => fin _ rfl) (fun h => absurd (gcmp (hv hk0)) h)
theorem cs_fog (F : LF D A ad adV cA p l s m args c b L xs) {B : Int} {τ : SZ} (hW : WL B τ) (hB : B + 400 ≤ 100000000) {i : Nat} (hi : i + 5 ≤ L) (hL : L ≤ 2560) {qo qd : Nat} {fo : Nat → Int64} {fd : Nat → UInt64} (hP : va_P D cls9 (LV ad cA qo qd (sz τ) fo fd) H) (hD : va_D A (LV ad cA qo qd (sz τ) fo fd)) (hS : va_S A s.heap H locs) (hc : cells + 2 ≤ room_1.cells) (hs : slots + 12 ≤ room_1.slots) {ls : Array Slot} (hl : lv_has ls 9 [(0, .ref b), (1, .ref (ad 0)), (2, .ref (ad 21)), (3, .ref qo), (4, .ref qd), (5, .int (nI i))])
    (kk : ∀ (τ' : SZ) (fo' : Nat → Int64) (H' : Heap) (locs' : List Loc) (ls' : Array Slot), WL (B + 200) τ' → va_P D cls9 (LV ad cA qo qd (sz τ') fo' fd) H' → va_D A (LV ad cA qo qd (sz τ') fo' fd) → va_S A s.heap H' locs' → lv_has ls' 9 [(0, .ref b), (1, .ref (ad 0)), (2, .ref (ad 21)), (3, .ref qo), (4, .ref qd), (5, .int (nI i))] → W p l e room_1 s m args below meth c H' locs' (cells + 2) (slots + 12) Q (F0 m 2491 ls' [])) : W p l e room_1 s m args below meth c H locs cells slots Q (F0 m 432 ls []) := by
  obtain ⟨hx, hb, hml, hown, hts, hK, hWX, hA, hN, hX, hbl, hbA, hl0⟩ := F
  obtain ⟨r, b', τ1, τ2, hr, hE, hm, ht, hW2, hu, hq⟩ := cal_rr (ad := ad) (cA := cA) (as' := [.inr (xs (i + 1)), .inr (xs (i + 2)), .inr (xs (i + 3))]) (kc_fog hW hB (xs (i + 1)) (xs (i + 2)) (xs (i + 3))) (by simp only [List.map_cons, List.map_nil, vT1]) (by decide) (by decide)
  refine lv_aload_n hx hb (k := 1) (i := 1) (x := ad 0) (by decide +kernel) rfl (lv_at hl 1 rfl) ?_
  refine lv_aload_n hx hb (k := 0) (i := 0) (x := b) (by decide +kernel) rfl (lv_at hl 0 rfl) ?_
  refine lv_iload hx hb (i := 5) (x := nI i) (by decide +kernel) (lv_at hl 5 rfl) ?_
  refine lv_iconst hx hb (n := 1) (v := 1) (by decide +kernel) rfl ?_
  refine lv_iadd hx hb (x := nI i) (y := 1) (by decide +kernel) ?_
  rw [ia1]
  refine va_sld hx hb hX hbl hbA hS (vp_in_nI (n := i + 1) (by omega) (by omega)) (by decide +kernel) ?_
  rw [nI_clamp (show i + 1 < 2 ^ 31 by omega)]
  refine lv_aload_n hx hb (k := 0) (i := 0) (x := b) (by decide +kernel) rfl (lv_at hl 0 rfl) ?_
  refine lv_iload hx hb (i := 5) (x := nI i) (by decide +kernel) (lv_at hl 5 rfl) ?_
  refine lv_iconst hx hb (n := 2) (v := 2) (by decide +kernel) rfl ?_
  refine lv_iadd hx hb (x := nI i) (y := 2) (by decide +kernel) ?_
  rw [ia2]
  refine va_sld hx hb hX hbl hbA hS (vp_in_nI (n := i + 2) (by omega) (by omega)) (by decide +kernel) ?_
  rw [nI_clamp (show i + 2 < 2 ^ 31 by omega)]
  refine lv_aload_n hx hb (k := 0) (i := 0) (x := b) (by decide +kernel) rfl (lv_at hl 0 rfl) ?_
  refine lv_iload hx hb (i := 5) (x := nI i) (by decide +kernel) (lv_at hl 5 rfl) ?_
  refine lv_iconst hx hb (n := 3) (v := 3) (by decide +kernel) rfl ?_
  refine lv_iadd hx hb (x := nI i) (y := 3) (by decide +kernel) ?_
  rw [ia3]
  refine va_sld hx hb hX hbl hbA hS (vp_in_nI (n := i + 3) (by omega) (by omega)) (by decide +kernel) ?_
  rw [nI_clamp (show i + 3 < 2 ^ 31 by omega)]
  refine lv_aload_n hx hb (k := 3) (i := 3) (x := qo) (by decide +kernel) rfl (lv_at hl 3 rfl) ?_
  refine lm_call (own := RL) (x := 150) (n := 5) (rest := []) (w_fog (a1 := xs (i + 1)) (a2 := xs (i + 2)) (a3 := xs (i + 3)) (fo := fo) (qo := qo) (X := [(qd, .inl (cA 3, 1, .inr (.inr (.inr (.inl fd)))))]) hl0 hr hE) hx hts hb hown hP hD hK hWX hA hN hS (hl.1.trans hml.symm) (lz 22 rfl) (lz 23 rfl) (lz 24 rfl) (lz 3 rfl) ⟨by decide, by decide, by decide +kernel⟩ rfl ⟨by decide, by decide, hc, hs⟩ (by decide) (by decide +kernel) rfl (fun k W' hG H locs hP hD hS => ?_)
  obtain ⟨fo', rfl, hk, hv⟩ := hu _ _ _ _ _ hG
  refine lv_istore hx hb (i := 6) (lv' := [(6, .int k), (0, .ref b), (1, .ref (ad 0)), (2, .ref (ad 21)), (3, .ref qo), (4, .ref qd), (5, .int (nI i))]) (by decide +kernel) hl (by decide) rfl (fun ls hl => ?_)
  refine lv_aload_n hx hb (k := 2) (i := 2) (x := ad 21) (by decide +kernel) rfl (lv_at hl 3 rfl) ?_
  refine lv_aload_n hx hb (k := 0) (i := 0) (x := b) (by decide +kernel) rfl (lv_at hl 1 rfl) ?_
  refine lv_iload hx hb (i := 5) (x := nI i) (by decide +kernel) (lv_at hl 6 rfl) ?_
  refine lv_iconst hx hb (n := 1) (v := 1) (by decide +kernel) rfl ?_
  refine lv_iadd hx hb (x := nI i) (y := 1) (by decide +kernel) ?_
  rw [ia1]
  refine va_sld hx hb hX hbl hbA hS (vp_in_nI (n := i + 1) (by omega) (by omega)) (by decide +kernel) ?_
  rw [nI_clamp (show i + 1 < 2 ^ 31 by omega)]
  refine lv_aload_n hx hb (k := 0) (i := 0) (x := b) (by decide +kernel) rfl (lv_at hl 1 rfl) ?_
  refine lv_iload hx hb (i := 5) (x := nI i) (by decide +kernel) (lv_at hl 6 rfl) ?_
  refine lv_iconst hx hb (n := 2) (v := 2) (by decide +kernel) rfl ?_
  refine lv_iadd hx hb (x := nI i) (y := 2) (by decide +kernel) ?_
  rw [ia2]
  refine va_sld hx hb hX hbl hbA hS (vp_in_nI (n := i + 2) (by omega) (by omega)) (by decide +kernel) ?_
  rw [nI_clamp (show i + 2 < 2 ^ 31 by omega)]
  refine lv_aload_n hx hb (k := 0) (i := 0) (x := b) (by decide +kernel) rfl (lv_at hl 1 rfl) ?_
  refine lv_iload hx hb (i := 5) (x := nI i) (by decide +kernel) (lv_at hl 6 rfl) ?_
  refine lv_iconst hx hb (n := 3) (v := 3) (by decide +kernel) rfl ?_
  refine lv_iadd hx hb (x := nI i) (y := 3) (by decide +kernel) ?_
  rw [ia3]
  refine va_sld hx hb hX hbl hbA hS (vp_in_nI (n := i + 3) (by omega) (by omega)) (by decide +kernel) ?_
  rw [nI_clamp (show i + 3 < 2 ^ 31 by omega)]
  refine lcall (d := 12) (j := m8_fog) (a := 21) (as := [.inr (xs (i + 1)), .inr (xs (i + 2)), .inr (xs (i + 3))]) (X := [(qo, .inl (cA 2, 1, .inr (.inl fo'))), (qd, .inl (cA 3, 1, .inr (.inr (.inr (.inl fd)))))]) (own := RL) (x := 152) (rest := []) hl0 hm (by decide) rfl rfl hx hts hb hown hP hD hK hWX hA hS (hl.1.trans hml.symm) (lz 25 rfl) (lz 26 rfl) (lz 27 rfl) ⟨by decide, by decide, r0 rfl hc, r6 rfl hs⟩ (by decide) (by decide +kernel) rfl (fun E τ e => by cases e) (fun v τ e H locs hP hS => ?_)
  cases e
  have hD := wOX_D (τ := sz τ2) hD
  refine W.widen (k := cells + 2) (n := slots + 12) (w0 rfl) (w6 rfl) ?_
  refine W.eq (g2 := F0 m 479 ls [.int b']) rfl ?_
  refine lv_istore hx hb (i := 7) (lv' := [(7, .int b'), (6, .int k), (0, .ref b), (1, .ref (ad 0)), (2, .ref (ad 21)), (3, .ref qo), (4, .ref qd), (5, .int (nI i))]) (by decide +kernel) hl (by decide) rfl (fun ls hl => ?_)
  refine lv_aload_n hx hb (k := 2) (i := 2) (x := ad 21) (by decide +kernel) rfl (lv_at hl 4 rfl) ?_
  refine lcall (d := 12) (j := m8_thrown) (a := 21) (as := []) (X := [(qo, .inl (cA 2, 1, .inr (.inl fo'))), (qd, .inl (cA 3, 1, .inr (.inr (.inr (.inl fd)))))]) (own := RL) (x := 140) (rest := []) hl0 ht (by decide) rfl rfl hx hts hb hown hP hD hK hWX hA hS (hl.1.trans hml.symm) (lz 7 rfl) (lz 8 rfl) (lz 9 rfl) ⟨by decide, by decide, r0 rfl hc, r6 rfl hs⟩ (by decide) (by decide +kernel) rfl (fun E τ e => by cases e) (fun v τ e H locs hP hS => ?_)
  cases e
  have hD := wOX_D (τ := sz τ2) hD
  refine W.widen (k := cells + 2) (n := slots + 12) (w0 rfl) (w6 rfl) ?_
  refine W.eq (g2 := F0 m 485 ls [.int (iI (τ2 21 7))]) rfl ?_
  refine lv_iload hx hb (i := 6) (x := k) (by decide +kernel) (lv_at hl 1 rfl) ?_
  refine lv_icmp_eq hx hb (off := 5) (tgt := 492) (by decide +kernel) (by decide) (fun _ => ?_) (fun h => absurd hk h)
  refine lv_iload hx hb (i := 6) (x := k) (by decide +kernel) (lv_at hl 1 rfl) ?_
  have fin : ∀ pc9 : Nat, pc9 = 509 → W p l e room_1 s m args below meth c H locs (cells + 2) (slots + 12) Q (F0 m pc9 ls []) := by
    rintro _ rfl
    refine lv_goto hx hb (off := 1982) (tgt := 2491) (by decide +kernel) (by decide) ?_
    exact kk τ2 fo' _ _ _ hW2 hP hD hS (lv_sub hl [2, 3, 4, 5, 6, 7] rfl)
  refine lv_if_ne hx hb (off := 15) (tgt := 509) (by decide +kernel) (by decide) (fun _ => fin _ rfl) (fun hk0 => ?_)
  refine lv_aload_n hx hb (k := 3) (i := 3) (x := qo) (by decide +kernel) rfl (lv_at hl 5 rfl) ?_
  refine lv_iconst hx hb (n := 0) (v := 0) (by decide +kernel) rfl ?_
  refine va_lald hx hb hK hP (31 + 0) 2 (wOX_get (j := 0) rfl) rfl vp01 (by decide +kernel) ?_
  refine lv_iload hx hb (i := 7) (x := b') (by decide +kernel) (lv_at hl 0 rfl) ?_
  refine lv_i2l hx hb (by decide +kernel) rfl ?_
  refine W.lcmp hx hb (by decide +kernel) ?_
  refine lv_if_eq hx hb (off := 5) (tgt := 509) (by decide +kernel) (by decide) (fun _ => fin _ rfl) (fun h => absurd (gcmp (hv hk0)) h)
theorem cs_move (F : LF D A ad adV cA p l s m args c b L xs) {B : Int} {τ : SZ} (hW : WL B τ) (hB : B + 400 ≤ 100000000) {i : Nat} (hi : i + 5 ≤ L) (hL : L ≤ 2560) {qo qd : Nat} {fo : Nat → Int64} {fd : Nat → UInt64} (hP : va_P D cls9 (LV ad cA qo qd (sz τ) fo fd) H) (hD : va_D A (LV ad cA qo qd (sz τ) fo fd)) (hS : va_S A s.heap H locs) (hc : cells + 2 ≤ room_1.cells) (hs : slots + 12 ≤ room_1.slots) {ls : Array Slot} (hl : lv_has ls 9 [(0, .ref b), (1, .ref (ad 0)), (2, .ref (ad 21)), (3, .ref qo), (4, .ref qd), (5, .int (nI i))])
    (kk : ∀ (τ' : SZ) (fo' : Nat → Int64) (H' : Heap) (locs' : List Loc) (ls' : Array Slot), WL (B + 200) τ' → va_P D cls9 (LV ad cA qo qd (sz τ') fo' fd) H' → va_D A (LV ad cA qo qd (sz τ') fo' fd) → va_S A s.heap H' locs' → lv_has ls' 9 [(0, .ref b), (1, .ref (ad 0)), (2, .ref (ad 21)), (3, .ref qo), (4, .ref qd), (5, .int (nI i))] → W p l e room_1 s m args below meth c H' locs' (cells + 2) (slots + 12) Q (F0 m 2491 ls' [])) : W p l e room_1 s m args below meth c H locs cells slots Q (F0 m 512 ls []) := by
  obtain ⟨hx, hb, hml, hown, hts, hK, hWX, hA, hN, hX, hbl, hbA, hl0⟩ := F
  obtain ⟨r, b', τ1, τ2, hr, hE, hm, ht, hW2, hu, hq⟩ := cal_rr (ad := ad) (cA := cA) (as' := [.inr (xs (i + 1)), .inr (xs (i + 2)), .inr (zB (xs (i + 3)))]) (kc_move hW hB (xs (i + 1)) (xs (i + 2)) (xs (i + 3))) (by simp only [List.map_cons, List.map_nil, vT1]) (by decide) (by decide)
  refine lv_aload_n hx hb (k := 1) (i := 1) (x := ad 0) (by decide +kernel) rfl (lv_at hl 1 rfl) ?_
  refine lv_aload_n hx hb (k := 0) (i := 0) (x := b) (by decide +kernel) rfl (lv_at hl 0 rfl) ?_
  refine lv_iload hx hb (i := 5) (x := nI i) (by decide +kernel) (lv_at hl 5 rfl) ?_
  refine lv_iconst hx hb (n := 1) (v := 1) (by decide +kernel) rfl ?_
  refine lv_iadd hx hb (x := nI i) (y := 1) (by decide +kernel) ?_
  rw [ia1]
  refine va_sld hx hb hX hbl hbA hS (vp_in_nI (n := i + 1) (by omega) (by omega)) (by decide +kernel) ?_
  rw [nI_clamp (show i + 1 < 2 ^ 31 by omega)]
  refine lv_aload_n hx hb (k := 0) (i := 0) (x := b) (by decide +kernel) rfl (lv_at hl 0 rfl) ?_
  refine lv_iload hx hb (i := 5) (x := nI i) (by decide +kernel) (lv_at hl 5 rfl) ?_
  refine lv_iconst hx hb (n := 2) (v := 2) (by decide +kernel) rfl ?_
  refine lv_iadd hx hb (x := nI i) (y := 2) (by decide +kernel) ?_
  rw [ia2]
  refine va_sld hx hb hX hbl hbA hS (vp_in_nI (n := i + 2) (by omega) (by omega)) (by decide +kernel) ?_
  rw [nI_clamp (show i + 2 < 2 ^ 31 by omega)]
  refine lv_aload_n hx hb (k := 0) (i := 0) (x := b) (by decide +kernel) rfl (lv_at hl 0 rfl) ?_
  refine lv_iload hx hb (i := 5) (x := nI i) (by decide +kernel) (lv_at hl 5 rfl) ?_
  refine lv_iconst hx hb (n := 3) (v := 3) (by decide +kernel) rfl ?_
  refine lv_iadd hx hb (x := nI i) (y := 3) (by decide +kernel) ?_
  rw [ia3]
  refine va_sld hx hb hX hbl hbA hS (vp_in_nI (n := i + 3) (by omega) (by omega)) (by decide +kernel) ?_
  rw [nI_clamp (show i + 3 < 2 ^ 31 by omega)]
  refine lbool hx hb (off0 := 7) (t := 538) (off1 := 4) (y := 539) (by decide +kernel) (by decide) (by decide +kernel) (by decide +kernel) (by decide) (by decide +kernel) rfl ?_
  refine lv_aload_n hx hb (k := 3) (i := 3) (x := qo) (by decide +kernel) rfl (lv_at hl 3 rfl) ?_
  refine lm_call (own := RL) (x := 153) (n := 5) (rest := []) (w_move (a1 := xs (i + 1)) (a2 := xs (i + 2)) (a3 := zB (xs (i + 3))) (fo := fo) (qo := qo) (X := [(qd, .inl (cA 3, 1, .inr (.inr (.inr (.inl fd)))))]) hl0 hr hE) hx hts hb hown hP hD hK hWX hA hN hS (hl.1.trans hml.symm) (lz 28 rfl) (lz 29 rfl) (lz 30 rfl) (lz 3 rfl) ⟨by decide, by decide, by decide +kernel⟩ rfl ⟨by decide, by decide, hc, hs⟩ (by decide) (by decide +kernel) rfl (fun k W' hG H locs hP hD hS => ?_)
  obtain ⟨fo', rfl, hk, hv⟩ := hu _ _ _ _ _ hG
  refine lv_istore hx hb (i := 6) (lv' := [(6, .int k), (0, .ref b), (1, .ref (ad 0)), (2, .ref (ad 21)), (3, .ref qo), (4, .ref qd), (5, .int (nI i))]) (by decide +kernel) hl (by decide) rfl (fun ls hl => ?_)
  refine lv_aload_n hx hb (k := 2) (i := 2) (x := ad 21) (by decide +kernel) rfl (lv_at hl 3 rfl) ?_
  refine lv_aload_n hx hb (k := 0) (i := 0) (x := b) (by decide +kernel) rfl (lv_at hl 1 rfl) ?_
  refine lv_iload hx hb (i := 5) (x := nI i) (by decide +kernel) (lv_at hl 6 rfl) ?_
  refine lv_iconst hx hb (n := 1) (v := 1) (by decide +kernel) rfl ?_
  refine lv_iadd hx hb (x := nI i) (y := 1) (by decide +kernel) ?_
  rw [ia1]
  refine va_sld hx hb hX hbl hbA hS (vp_in_nI (n := i + 1) (by omega) (by omega)) (by decide +kernel) ?_
  rw [nI_clamp (show i + 1 < 2 ^ 31 by omega)]
  refine lv_aload_n hx hb (k := 0) (i := 0) (x := b) (by decide +kernel) rfl (lv_at hl 1 rfl) ?_
  refine lv_iload hx hb (i := 5) (x := nI i) (by decide +kernel) (lv_at hl 6 rfl) ?_
  refine lv_iconst hx hb (n := 2) (v := 2) (by decide +kernel) rfl ?_
  refine lv_iadd hx hb (x := nI i) (y := 2) (by decide +kernel) ?_
  rw [ia2]
  refine va_sld hx hb hX hbl hbA hS (vp_in_nI (n := i + 2) (by omega) (by omega)) (by decide +kernel) ?_
  rw [nI_clamp (show i + 2 < 2 ^ 31 by omega)]
  refine lv_aload_n hx hb (k := 0) (i := 0) (x := b) (by decide +kernel) rfl (lv_at hl 1 rfl) ?_
  refine lv_iload hx hb (i := 5) (x := nI i) (by decide +kernel) (lv_at hl 6 rfl) ?_
  refine lv_iconst hx hb (n := 3) (v := 3) (by decide +kernel) rfl ?_
  refine lv_iadd hx hb (x := nI i) (y := 3) (by decide +kernel) ?_
  rw [ia3]
  refine va_sld hx hb hX hbl hbA hS (vp_in_nI (n := i + 3) (by omega) (by omega)) (by decide +kernel) ?_
  rw [nI_clamp (show i + 3 < 2 ^ 31 by omega)]
  refine lbool hx hb (off0 := 7) (t := 571) (off1 := 4) (y := 572) (by decide +kernel) (by decide) (by decide +kernel) (by decide +kernel) (by decide) (by decide +kernel) rfl ?_
  refine lcall (d := 12) (j := m8_move) (a := 21) (as := [.inr (xs (i + 1)), .inr (xs (i + 2)), .inr (zB (xs (i + 3)))]) (X := [(qo, .inl (cA 2, 1, .inr (.inl fo'))), (qd, .inl (cA 3, 1, .inr (.inr (.inr (.inl fd)))))]) (own := RL) (x := 156) (rest := []) hl0 hm (by decide) rfl rfl hx hts hb hown hP hD hK hWX hA hS (hl.1.trans hml.symm) (lz 31 rfl) (lz 32 rfl) (lz 33 rfl) ⟨by decide, by decide, r0 rfl hc, r6 rfl hs⟩ (by decide) (by decide +kernel) rfl (fun E τ e => by cases e) (fun v τ e H locs hP hS => ?_)
  cases e
  have hD := wOX_D (τ := sz τ2) hD
  refine W.widen (k := cells + 2) (n := slots + 12) (w0 rfl) (w6 rfl) ?_
  refine W.eq (g2 := F0 m 575 ls [.int b']) rfl ?_
  refine lv_istore hx hb (i := 7) (lv' := [(7, .int b'), (6, .int k), (0, .ref b), (1, .ref (ad 0)), (2, .ref (ad 21)), (3, .ref qo), (4, .ref qd), (5, .int (nI i))]) (by decide +kernel) hl (by decide) rfl (fun ls hl => ?_)
  refine lv_aload_n hx hb (k := 2) (i := 2) (x := ad 21) (by decide +kernel) rfl (lv_at hl 4 rfl) ?_
  refine lcall (d := 12) (j := m8_thrown) (a := 21) (as := []) (X := [(qo, .inl (cA 2, 1, .inr (.inl fo'))), (qd, .inl (cA 3, 1, .inr (.inr (.inr (.inl fd)))))]) (own := RL) (x := 140) (rest := []) hl0 ht (by decide) rfl rfl hx hts hb hown hP hD hK hWX hA hS (hl.1.trans hml.symm) (lz 7 rfl) (lz 8 rfl) (lz 9 rfl) ⟨by decide, by decide, r0 rfl hc, r6 rfl hs⟩ (by decide) (by decide +kernel) rfl (fun E τ e => by cases e) (fun v τ e H locs hP hS => ?_)
  cases e
  have hD := wOX_D (τ := sz τ2) hD
  refine W.widen (k := cells + 2) (n := slots + 12) (w0 rfl) (w6 rfl) ?_
  refine W.eq (g2 := F0 m 581 ls [.int (iI (τ2 21 7))]) rfl ?_
  refine lv_iload hx hb (i := 6) (x := k) (by decide +kernel) (lv_at hl 1 rfl) ?_
  refine lv_icmp_eq hx hb (off := 5) (tgt := 588) (by decide +kernel) (by decide) (fun _ => ?_) (fun h => absurd hk h)
  refine lv_iload hx hb (i := 6) (x := k) (by decide +kernel) (lv_at hl 1 rfl) ?_
  have fin : ∀ pc9 : Nat, pc9 = 605 → W p l e room_1 s m args below meth c H locs (cells + 2) (slots + 12) Q (F0 m pc9 ls []) := by
    rintro _ rfl
    refine lv_goto hx hb (off := 1886) (tgt := 2491) (by decide +kernel) (by decide) ?_
    exact kk τ2 fo' _ _ _ hW2 hP hD hS (lv_sub hl [2, 3, 4, 5, 6, 7] rfl)
  refine lv_if_ne hx hb (off := 15) (tgt := 605) (by decide +kernel) (by decide) (fun _ => fin _ rfl) (fun hk0 => ?_)
  refine lv_aload_n hx hb (k := 3) (i := 3) (x := qo) (by decide +kernel) rfl (lv_at hl 5 rfl) ?_
  refine lv_iconst hx hb (n := 0) (v := 0) (by decide +kernel) rfl ?_
  refine va_lald hx hb hK hP (31 + 0) 2 (wOX_get (j := 0) rfl) rfl vp01 (by decide +kernel) ?_
  refine lv_iload hx hb (i := 7) (x := b') (by decide +kernel) (lv_at hl 0 rfl) ?_
  refine lv_i2l hx hb (by decide +kernel) rfl ?_
  refine W.lcmp hx hb (by decide +kernel) ?_
  refine lv_if_eq hx hb (off := 5) (tgt := 605) (by decide +kernel) (by decide) (fun _ => fin _ rfl) (fun h => absurd (gcmp (hv hk0)) h)
theorem cs_pass (F : LF D A ad adV cA p l s m args c b L xs) {B : Int} {τ : SZ} (hW : WL B τ) (hB : B + 400 ≤ 100000000) {i : Nat} (hi : i + 5 ≤ L) (hL : L ≤ 2560) {qo qd : Nat} {fo : Nat → Int64} {fd : Nat → UInt64} (hP : va_P D cls9 (LV ad cA qo qd (sz τ) fo fd) H) (hD : va_D A (LV ad cA qo qd (sz τ) fo fd)) (hS : va_S A s.heap H locs) (hc : cells + 2 ≤ room_1.cells) (hs : slots + 12 ≤ room_1.slots) {ls : Array Slot} (hl : lv_has ls 9 [(0, .ref b), (1, .ref (ad 0)), (2, .ref (ad 21)), (3, .ref qo), (4, .ref qd), (5, .int (nI i))])
    (kk : ∀ (τ' : SZ) (fo' : Nat → Int64) (H' : Heap) (locs' : List Loc) (ls' : Array Slot), WL (B + 200) τ' → va_P D cls9 (LV ad cA qo qd (sz τ') fo' fd) H' → va_D A (LV ad cA qo qd (sz τ') fo' fd) → va_S A s.heap H' locs' → lv_has ls' 9 [(0, .ref b), (1, .ref (ad 0)), (2, .ref (ad 21)), (3, .ref qo), (4, .ref qd), (5, .int (nI i))] → W p l e room_1 s m args below meth c H' locs' (cells + 2) (slots + 12) Q (F0 m 2491 ls' [])) : W p l e room_1 s m args below meth c H locs cells slots Q (F0 m 608 ls []) := by
  obtain ⟨hx, hb, hml, hown, hts, hK, hWX, hA, hN, hX, hbl, hbA, hl0⟩ := F
  obtain ⟨r, b', τ1, τ2, hr, hE, hm, ht, hW2, hu, hq⟩ := cal_rr (ad := ad) (cA := cA) (as' := []) (kc_pass hW hB) (by simp only [List.map_cons, List.map_nil, vT1]) (by decide) (by decide)
  refine lv_aload_n hx hb (k := 1) (i := 1) (x := ad 0) (by decide +kernel) rfl (lv_at hl 1 rfl) ?_
  refine lv_aload_n hx hb (k := 3) (i := 3) (x := qo) (by decide +kernel) rfl (lv_at hl 3 rfl) ?_
  refine lm_call (own := RL) (x := 157) (n := 2) (rest := []) (w_pass (fo := fo) (qo := qo) (X := [(qd, .inl (cA 3, 1, .inr (.inr (.inr (.inl fd)))))]) hl0 hr hE) hx hts hb hown hP hD hK hWX hA hN hS (hl.1.trans hml.symm) (lz 34 rfl) (lz 35 rfl) (lz 36 rfl) (lz 3 rfl) ⟨by decide, by decide, by decide +kernel⟩ rfl ⟨by decide, by decide, hc, hs⟩ (by decide) (by decide +kernel) rfl (fun k W' hG H locs hP hD hS => ?_)
  obtain ⟨fo', rfl, hk, hv⟩ := hu _ _ _ _ _ hG
  refine lv_istore hx hb (i := 6) (lv' := [(6, .int k), (0, .ref b), (1, .ref (ad 0)), (2, .ref (ad 21)), (3, .ref qo), (4, .ref qd), (5, .int (nI i))]) (by decide +kernel) hl (by decide) rfl (fun ls hl => ?_)
  refine lv_aload_n hx hb (k := 2) (i := 2) (x := ad 21) (by decide +kernel) rfl (lv_at hl 3 rfl) ?_
  refine lcall (d := 12) (j := m8_pass) (a := 21) (as := []) (X := [(qo, .inl (cA 2, 1, .inr (.inl fo'))), (qd, .inl (cA 3, 1, .inr (.inr (.inr (.inl fd)))))]) (own := RL) (x := 160) (rest := []) hl0 hm (by decide) rfl rfl hx hts hb hown hP hD hK hWX hA hS (hl.1.trans hml.symm) (lz 37 rfl) (lz 38 rfl) (lz 39 rfl) ⟨by decide, by decide, r0 rfl hc, r6 rfl hs⟩ (by decide) (by decide +kernel) rfl (fun E τ e => by cases e) (fun v τ e H locs hP hS => ?_)
  cases e
  have hD := wOX_D (τ := sz τ2) hD
  refine W.widen (k := cells + 2) (n := slots + 12) (w0 rfl) (w6 rfl) ?_
  refine W.eq (g2 := F0 m 619 ls [.int b']) rfl ?_
  refine lv_istore hx hb (i := 7) (lv' := [(7, .int b'), (6, .int k), (0, .ref b), (1, .ref (ad 0)), (2, .ref (ad 21)), (3, .ref qo), (4, .ref qd), (5, .int (nI i))]) (by decide +kernel) hl (by decide) rfl (fun ls hl => ?_)
  refine lv_aload_n hx hb (k := 2) (i := 2) (x := ad 21) (by decide +kernel) rfl (lv_at hl 4 rfl) ?_
  refine lcall (d := 12) (j := m8_thrown) (a := 21) (as := []) (X := [(qo, .inl (cA 2, 1, .inr (.inl fo'))), (qd, .inl (cA 3, 1, .inr (.inr (.inr (.inl fd)))))]) (own := RL) (x := 140) (rest := []) hl0 ht (by decide) rfl rfl hx hts hb hown hP hD hK hWX hA hS (hl.1.trans hml.symm) (lz 7 rfl) (lz 8 rfl) (lz 9 rfl) ⟨by decide, by decide, r0 rfl hc, r6 rfl hs⟩ (by decide) (by decide +kernel) rfl (fun E τ e => by cases e) (fun v τ e H locs hP hS => ?_)
  cases e
  have hD := wOX_D (τ := sz τ2) hD
  refine W.widen (k := cells + 2) (n := slots + 12) (w0 rfl) (w6 rfl) ?_
  refine W.eq (g2 := F0 m 625 ls [.int (iI (τ2 21 7))]) rfl ?_
  refine lv_iload hx hb (i := 6) (x := k) (by decide +kernel) (lv_at hl 1 rfl) ?_
  refine lv_icmp_eq hx hb (off := 5) (tgt := 632) (by decide +kernel) (by decide) (fun _ => ?_) (fun h => absurd hk h)
  refine lv_iload hx hb (i := 6) (x := k) (by decide +kernel) (lv_at hl 1 rfl) ?_
  have fin : ∀ pc9 : Nat, pc9 = 649 → W p l e room_1 s m args below meth c H locs (cells + 2) (slots + 12) Q (F0 m pc9 ls []) := by
    rintro _ rfl
    refine lv_goto hx hb (off := 1842) (tgt := 2491) (by decide +kernel) (by decide) ?_
    exact kk τ2 fo' _ _ _ hW2 hP hD hS (lv_sub hl [2, 3, 4, 5, 6, 7] rfl)
  refine lv_if_ne hx hb (off := 15) (tgt := 649) (by decide +kernel) (by decide) (fun _ => fin _ rfl) (fun hk0 => ?_)
  refine lv_aload_n hx hb (k := 3) (i := 3) (x := qo) (by decide +kernel) rfl (lv_at hl 5 rfl) ?_
  refine lv_iconst hx hb (n := 0) (v := 0) (by decide +kernel) rfl ?_
  refine va_lald hx hb hK hP (31 + 0) 2 (wOX_get (j := 0) rfl) rfl vp01 (by decide +kernel) ?_
  refine lv_iload hx hb (i := 7) (x := b') (by decide +kernel) (lv_at hl 0 rfl) ?_
  refine lv_i2l hx hb (by decide +kernel) rfl ?_
  refine W.lcmp hx hb (by decide +kernel) ?_
  refine lv_if_eq hx hb (off := 5) (tgt := 649) (by decide +kernel) (by decide) (fun _ => fin _ rfl) (fun h => absurd (gcmp (hv hk0)) h)
theorem cs_ferryOf (F : LF D A ad adV cA p l s m args c b L xs) {B : Int} {τ : SZ} (hW : WL B τ) (hB : B + 400 ≤ 100000000) {i : Nat} (hi : i + 5 ≤ L) (hL : L ≤ 2560) {qo qd : Nat} {fo : Nat → Int64} {fd : Nat → UInt64} (hP : va_P D cls9 (LV ad cA qo qd (sz τ) fo fd) H) (hD : va_D A (LV ad cA qo qd (sz τ) fo fd)) (hS : va_S A s.heap H locs) (hc : cells + 2 ≤ room_1.cells) (hs : slots + 12 ≤ room_1.slots) {ls : Array Slot} (hl : lv_has ls 9 [(0, .ref b), (1, .ref (ad 0)), (2, .ref (ad 21)), (3, .ref qo), (4, .ref qd), (5, .int (nI i))])
    (kk : ∀ (τ' : SZ) (fo' : Nat → Int64) (H' : Heap) (locs' : List Loc) (ls' : Array Slot), WL (B + 200) τ' → va_P D cls9 (LV ad cA qo qd (sz τ') fo' fd) H' → va_D A (LV ad cA qo qd (sz τ') fo' fd) → va_S A s.heap H' locs' → lv_has ls' 9 [(0, .ref b), (1, .ref (ad 0)), (2, .ref (ad 21)), (3, .ref qo), (4, .ref qd), (5, .int (nI i))] → W p l e room_1 s m args below meth c H' locs' (cells + 2) (slots + 12) Q (F0 m 2491 ls' [])) : W p l e room_1 s m args below meth c H locs cells slots Q (F0 m 652 ls []) := by
  obtain ⟨hx, hb, hml, hown, hts, hK, hWX, hA, hN, hX, hbl, hbA, hl0⟩ := F
  obtain ⟨r, b', τ1, τ2, hr, hE, hm, ht, hW2, hu, hq⟩ := cal_rr (ad := ad) (cA := cA) (as' := [.inr (xs (i + 1)), .inr (xs (i + 2))]) (kc_ferryOf hW hB (xs (i + 1)) (xs (i + 2))) (by simp only [List.map_cons, List.map_nil, vT1]) (by decide) (by decide)
  refine lv_aload_n hx hb (k := 1) (i := 1) (x := ad 0) (by decide +kernel) rfl (lv_at hl 1 rfl) ?_
  refine lv_aload_n hx hb (k := 0) (i := 0) (x := b) (by decide +kernel) rfl (lv_at hl 0 rfl) ?_
  refine lv_iload hx hb (i := 5) (x := nI i) (by decide +kernel) (lv_at hl 5 rfl) ?_
  refine lv_iconst hx hb (n := 1) (v := 1) (by decide +kernel) rfl ?_
  refine lv_iadd hx hb (x := nI i) (y := 1) (by decide +kernel) ?_
  rw [ia1]
  refine va_sld hx hb hX hbl hbA hS (vp_in_nI (n := i + 1) (by omega) (by omega)) (by decide +kernel) ?_
  rw [nI_clamp (show i + 1 < 2 ^ 31 by omega)]
  refine lv_aload_n hx hb (k := 0) (i := 0) (x := b) (by decide +kernel) rfl (lv_at hl 0 rfl) ?_
  refine lv_iload hx hb (i := 5) (x := nI i) (by decide +kernel) (lv_at hl 5 rfl) ?_
  refine lv_iconst hx hb (n := 2) (v := 2) (by decide +kernel) rfl ?_
  refine lv_iadd hx hb (x := nI i) (y := 2) (by decide +kernel) ?_
  rw [ia2]
  refine va_sld hx hb hX hbl hbA hS (vp_in_nI (n := i + 2) (by omega) (by omega)) (by decide +kernel) ?_
  rw [nI_clamp (show i + 2 < 2 ^ 31 by omega)]
  refine lv_aload_n hx hb (k := 3) (i := 3) (x := qo) (by decide +kernel) rfl (lv_at hl 3 rfl) ?_
  refine lm_call (own := RL) (x := 161) (n := 4) (rest := []) (w_ferryOf (a1 := xs (i + 1)) (a2 := xs (i + 2)) (fo := fo) (qo := qo) (X := [(qd, .inl (cA 3, 1, .inr (.inr (.inr (.inl fd)))))]) hl0 hr hE) hx hts hb hown hP hD hK hWX hA hN hS (hl.1.trans hml.symm) (lz 40 rfl) (lz 41 rfl) (lz 42 rfl) (lz 3 rfl) ⟨by decide, by decide, by decide +kernel⟩ rfl ⟨by decide, by decide, hc, hs⟩ (by decide) (by decide +kernel) rfl (fun k W' hG H locs hP hD hS => ?_)
  obtain ⟨fo', rfl, hk, hv⟩ := hu _ _ _ _ _ hG
  refine lv_istore hx hb (i := 6) (lv' := [(6, .int k), (0, .ref b), (1, .ref (ad 0)), (2, .ref (ad 21)), (3, .ref qo), (4, .ref qd), (5, .int (nI i))]) (by decide +kernel) hl (by decide) rfl (fun ls hl => ?_)
  refine lv_aload_n hx hb (k := 2) (i := 2) (x := ad 21) (by decide +kernel) rfl (lv_at hl 3 rfl) ?_
  refine lv_aload_n hx hb (k := 0) (i := 0) (x := b) (by decide +kernel) rfl (lv_at hl 1 rfl) ?_
  refine lv_iload hx hb (i := 5) (x := nI i) (by decide +kernel) (lv_at hl 6 rfl) ?_
  refine lv_iconst hx hb (n := 1) (v := 1) (by decide +kernel) rfl ?_
  refine lv_iadd hx hb (x := nI i) (y := 1) (by decide +kernel) ?_
  rw [ia1]
  refine va_sld hx hb hX hbl hbA hS (vp_in_nI (n := i + 1) (by omega) (by omega)) (by decide +kernel) ?_
  rw [nI_clamp (show i + 1 < 2 ^ 31 by omega)]
  refine lv_aload_n hx hb (k := 0) (i := 0) (x := b) (by decide +kernel) rfl (lv_at hl 1 rfl) ?_
  refine lv_iload hx hb (i := 5) (x := nI i) (by decide +kernel) (lv_at hl 6 rfl) ?_
  refine lv_iconst hx hb (n := 2) (v := 2) (by decide +kernel) rfl ?_
  refine lv_iadd hx hb (x := nI i) (y := 2) (by decide +kernel) ?_
  rw [ia2]
  refine va_sld hx hb hX hbl hbA hS (vp_in_nI (n := i + 2) (by omega) (by omega)) (by decide +kernel) ?_
  rw [nI_clamp (show i + 2 < 2 ^ 31 by omega)]
  refine lcall (d := 12) (j := m8_ferryOf) (a := 21) (as := [.inr (xs (i + 1)), .inr (xs (i + 2))]) (X := [(qo, .inl (cA 2, 1, .inr (.inl fo'))), (qd, .inl (cA 3, 1, .inr (.inr (.inr (.inl fd)))))]) (own := RL) (x := 163) (rest := []) hl0 hm (by decide) rfl rfl hx hts hb hown hP hD hK hWX hA hS (hl.1.trans hml.symm) (lz 43 rfl) (lz 44 rfl) (lz 45 rfl) ⟨by decide, by decide, r0 rfl hc, r6 rfl hs⟩ (by decide) (by decide +kernel) rfl (fun E τ e => by cases e) (fun v τ e H locs hP hS => ?_)
  cases e
  have hD := wOX_D (τ := sz τ2) hD
  refine W.widen (k := cells + 2) (n := slots + 12) (w0 rfl) (w6 rfl) ?_
  refine W.eq (g2 := F0 m 687 ls [.int b']) rfl ?_
  refine lv_istore hx hb (i := 7) (lv' := [(7, .int b'), (6, .int k), (0, .ref b), (1, .ref (ad 0)), (2, .ref (ad 21)), (3, .ref qo), (4, .ref qd), (5, .int (nI i))]) (by decide +kernel) hl (by decide) rfl (fun ls hl => ?_)
  refine lv_aload_n hx hb (k := 2) (i := 2) (x := ad 21) (by decide +kernel) rfl (lv_at hl 4 rfl) ?_
  refine lcall (d := 12) (j := m8_thrown) (a := 21) (as := []) (X := [(qo, .inl (cA 2, 1, .inr (.inl fo'))), (qd, .inl (cA 3, 1, .inr (.inr (.inr (.inl fd)))))]) (own := RL) (x := 140) (rest := []) hl0 ht (by decide) rfl rfl hx hts hb hown hP hD hK hWX hA hS (hl.1.trans hml.symm) (lz 7 rfl) (lz 8 rfl) (lz 9 rfl) ⟨by decide, by decide, r0 rfl hc, r6 rfl hs⟩ (by decide) (by decide +kernel) rfl (fun E τ e => by cases e) (fun v τ e H locs hP hS => ?_)
  cases e
  have hD := wOX_D (τ := sz τ2) hD
  refine W.widen (k := cells + 2) (n := slots + 12) (w0 rfl) (w6 rfl) ?_
  refine W.eq (g2 := F0 m 693 ls [.int (iI (τ2 21 7))]) rfl ?_
  refine lv_iload hx hb (i := 6) (x := k) (by decide +kernel) (lv_at hl 1 rfl) ?_
  refine lv_icmp_eq hx hb (off := 5) (tgt := 700) (by decide +kernel) (by decide) (fun _ => ?_) (fun h => absurd hk h)
  refine lv_iload hx hb (i := 6) (x := k) (by decide +kernel) (lv_at hl 1 rfl) ?_
  have fin : ∀ pc9 : Nat, pc9 = 717 → W p l e room_1 s m args below meth c H locs (cells + 2) (slots + 12) Q (F0 m pc9 ls []) := by
    rintro _ rfl
    refine lv_goto hx hb (off := 1774) (tgt := 2491) (by decide +kernel) (by decide) ?_
    exact kk τ2 fo' _ _ _ hW2 hP hD hS (lv_sub hl [2, 3, 4, 5, 6, 7] rfl)
  refine lv_if_ne hx hb (off := 15) (tgt := 717) (by decide +kernel) (by decide) (fun _ => fin _ rfl) (fun hk0 => ?_)
  refine lv_aload_n hx hb (k := 3) (i := 3) (x := qo) (by decide +kernel) rfl (lv_at hl 5 rfl) ?_
  refine lv_iconst hx hb (n := 0) (v := 0) (by decide +kernel) rfl ?_
  refine va_lald hx hb hK hP (31 + 0) 2 (wOX_get (j := 0) rfl) rfl vp01 (by decide +kernel) ?_
  refine lv_iload hx hb (i := 7) (x := b') (by decide +kernel) (lv_at hl 0 rfl) ?_
  refine lv_i2l hx hb (by decide +kernel) rfl ?_
  refine W.lcmp hx hb (by decide +kernel) ?_
  refine lv_if_eq hx hb (off := 5) (tgt := 717) (by decide +kernel) (by decide) (fun _ => fin _ rfl) (fun h => absurd (gcmp (hv hk0)) h)
theorem cs_at (F : LF D A ad adV cA p l s m args c b L xs) {B : Int} {τ : SZ} (hW : WL B τ) (hB : B + 400 ≤ 100000000) {i : Nat} (hi : i + 5 ≤ L) (hL : L ≤ 2560) {qo qd : Nat} {fo : Nat → Int64} {fd : Nat → UInt64} (hP : va_P D cls9 (LV ad cA qo qd (sz τ) fo fd) H) (hD : va_D A (LV ad cA qo qd (sz τ) fo fd)) (hS : va_S A s.heap H locs) (hc : cells + 2 ≤ room_1.cells) (hs : slots + 12 ≤ room_1.slots) {ls : Array Slot} (hl : lv_has ls 9 [(0, .ref b), (1, .ref (ad 0)), (2, .ref (ad 21)), (3, .ref qo), (4, .ref qd), (5, .int (nI i))])
    (kk : ∀ (τ' : SZ) (fo' : Nat → Int64) (H' : Heap) (locs' : List Loc) (ls' : Array Slot), WL (B + 200) τ' → va_P D cls9 (LV ad cA qo qd (sz τ') fo' fd) H' → va_D A (LV ad cA qo qd (sz τ') fo' fd) → va_S A s.heap H' locs' → lv_has ls' 9 [(0, .ref b), (1, .ref (ad 0)), (2, .ref (ad 21)), (3, .ref qo), (4, .ref qd), (5, .int (nI i))] → W p l e room_1 s m args below meth c H' locs' (cells + 2) (slots + 12) Q (F0 m 2491 ls' [])) : W p l e room_1 s m args below meth c H locs cells slots Q (F0 m 720 ls []) := by
  obtain ⟨hx, hb, hml, hown, hts, hK, hWX, hA, hN, hX, hbl, hbA, hl0⟩ := F
  obtain ⟨r, b', τ1, τ2, hr, hE, hm, ht, hW2, hu, hq⟩ := cal_rr (ad := ad) (cA := cA) (as' := [.inr (xs (i + 1)), .inr (xs (i + 2))]) (kc_at hW hB (xs (i + 1)) (xs (i + 2))) (by simp only [List.map_cons, List.map_nil, vT1]) (by decide) (by decide)
  refine lv_aload_n hx hb (k := 1) (i := 1) (x := ad 0) (by decide +kernel) rfl (lv_at hl 1 rfl) ?_
  refine lv_aload_n hx hb (k := 0) (i := 0) (x := b) (by decide +kernel) rfl (lv_at hl 0 rfl) ?_
  refine lv_iload hx hb (i := 5) (x := nI i) (by decide +kernel) (lv_at hl 5 rfl) ?_
  refine lv_iconst hx hb (n := 1) (v := 1) (by decide +kernel) rfl ?_
  refine lv_iadd hx hb (x := nI i) (y := 1) (by decide +kernel) ?_
  rw [ia1]
  refine va_sld hx hb hX hbl hbA hS (vp_in_nI (n := i + 1) (by omega) (by omega)) (by decide +kernel) ?_
  rw [nI_clamp (show i + 1 < 2 ^ 31 by omega)]
  refine lv_aload_n hx hb (k := 0) (i := 0) (x := b) (by decide +kernel) rfl (lv_at hl 0 rfl) ?_
  refine lv_iload hx hb (i := 5) (x := nI i) (by decide +kernel) (lv_at hl 5 rfl) ?_
  refine lv_iconst hx hb (n := 2) (v := 2) (by decide +kernel) rfl ?_
  refine lv_iadd hx hb (x := nI i) (y := 2) (by decide +kernel) ?_
  rw [ia2]
  refine va_sld hx hb hX hbl hbA hS (vp_in_nI (n := i + 2) (by omega) (by omega)) (by decide +kernel) ?_
  rw [nI_clamp (show i + 2 < 2 ^ 31 by omega)]
  refine lv_aload_n hx hb (k := 3) (i := 3) (x := qo) (by decide +kernel) rfl (lv_at hl 3 rfl) ?_
  refine lm_call (own := RL) (x := 164) (n := 4) (rest := []) (w_at (a1 := xs (i + 1)) (a2 := xs (i + 2)) (fo := fo) (qo := qo) (X := [(qd, .inl (cA 3, 1, .inr (.inr (.inr (.inl fd)))))]) hl0 hr hE) hx hts hb hown hP hD hK hWX hA hN hS (hl.1.trans hml.symm) (lz 46 rfl) (lz 47 rfl) (lz 48 rfl) (lz 3 rfl) ⟨by decide, by decide, by decide +kernel⟩ rfl ⟨by decide, by decide, hc, hs⟩ (by decide) (by decide +kernel) rfl (fun k W' hG H locs hP hD hS => ?_)
  obtain ⟨fo', rfl, hk, hv⟩ := hu _ _ _ _ _ hG
  refine lv_istore hx hb (i := 6) (lv' := [(6, .int k), (0, .ref b), (1, .ref (ad 0)), (2, .ref (ad 21)), (3, .ref qo), (4, .ref qd), (5, .int (nI i))]) (by decide +kernel) hl (by decide) rfl (fun ls hl => ?_)
  refine lv_aload_n hx hb (k := 2) (i := 2) (x := ad 21) (by decide +kernel) rfl (lv_at hl 3 rfl) ?_
  refine lv_aload_n hx hb (k := 0) (i := 0) (x := b) (by decide +kernel) rfl (lv_at hl 1 rfl) ?_
  refine lv_iload hx hb (i := 5) (x := nI i) (by decide +kernel) (lv_at hl 6 rfl) ?_
  refine lv_iconst hx hb (n := 1) (v := 1) (by decide +kernel) rfl ?_
  refine lv_iadd hx hb (x := nI i) (y := 1) (by decide +kernel) ?_
  rw [ia1]
  refine va_sld hx hb hX hbl hbA hS (vp_in_nI (n := i + 1) (by omega) (by omega)) (by decide +kernel) ?_
  rw [nI_clamp (show i + 1 < 2 ^ 31 by omega)]
  refine lv_aload_n hx hb (k := 0) (i := 0) (x := b) (by decide +kernel) rfl (lv_at hl 1 rfl) ?_
  refine lv_iload hx hb (i := 5) (x := nI i) (by decide +kernel) (lv_at hl 6 rfl) ?_
  refine lv_iconst hx hb (n := 2) (v := 2) (by decide +kernel) rfl ?_
  refine lv_iadd hx hb (x := nI i) (y := 2) (by decide +kernel) ?_
  rw [ia2]
  refine va_sld hx hb hX hbl hbA hS (vp_in_nI (n := i + 2) (by omega) (by omega)) (by decide +kernel) ?_
  rw [nI_clamp (show i + 2 < 2 ^ 31 by omega)]
  refine lcall (d := 12) (j := m8_at) (a := 21) (as := [.inr (xs (i + 1)), .inr (xs (i + 2))]) (X := [(qo, .inl (cA 2, 1, .inr (.inl fo'))), (qd, .inl (cA 3, 1, .inr (.inr (.inr (.inl fd)))))]) (own := RL) (x := 166) (rest := []) hl0 hm (by decide) rfl rfl hx hts hb hown hP hD hK hWX hA hS (hl.1.trans hml.symm) (lz 49 rfl) (lz 50 rfl) (lz 51 rfl) ⟨by decide, by decide, r0 rfl hc, r6 rfl hs⟩ (by decide) (by decide +kernel) rfl (fun E τ e => by cases e) (fun v τ e H locs hP hS => ?_)
  cases e
  have hD := wOX_D (τ := sz τ2) hD
  refine W.widen (k := cells + 2) (n := slots + 12) (w0 rfl) (w6 rfl) ?_
  refine W.eq (g2 := F0 m 755 ls [.int b']) rfl ?_
  refine lv_istore hx hb (i := 7) (lv' := [(7, .int b'), (6, .int k), (0, .ref b), (1, .ref (ad 0)), (2, .ref (ad 21)), (3, .ref qo), (4, .ref qd), (5, .int (nI i))]) (by decide +kernel) hl (by decide) rfl (fun ls hl => ?_)
  refine lv_aload_n hx hb (k := 2) (i := 2) (x := ad 21) (by decide +kernel) rfl (lv_at hl 4 rfl) ?_
  refine lcall (d := 12) (j := m8_thrown) (a := 21) (as := []) (X := [(qo, .inl (cA 2, 1, .inr (.inl fo'))), (qd, .inl (cA 3, 1, .inr (.inr (.inr (.inl fd)))))]) (own := RL) (x := 140) (rest := []) hl0 ht (by decide) rfl rfl hx hts hb hown hP hD hK hWX hA hS (hl.1.trans hml.symm) (lz 7 rfl) (lz 8 rfl) (lz 9 rfl) ⟨by decide, by decide, r0 rfl hc, r6 rfl hs⟩ (by decide) (by decide +kernel) rfl (fun E τ e => by cases e) (fun v τ e H locs hP hS => ?_)
  cases e
  have hD := wOX_D (τ := sz τ2) hD
  refine W.widen (k := cells + 2) (n := slots + 12) (w0 rfl) (w6 rfl) ?_
  refine W.eq (g2 := F0 m 761 ls [.int (iI (τ2 21 7))]) rfl ?_
  refine lv_iload hx hb (i := 6) (x := k) (by decide +kernel) (lv_at hl 1 rfl) ?_
  refine lv_icmp_eq hx hb (off := 5) (tgt := 768) (by decide +kernel) (by decide) (fun _ => ?_) (fun h => absurd hk h)
  refine lv_iload hx hb (i := 6) (x := k) (by decide +kernel) (lv_at hl 1 rfl) ?_
  have fin : ∀ pc9 : Nat, pc9 = 785 → W p l e room_1 s m args below meth c H locs (cells + 2) (slots + 12) Q (F0 m pc9 ls []) := by
    rintro _ rfl
    refine lv_goto hx hb (off := 1706) (tgt := 2491) (by decide +kernel) (by decide) ?_
    exact kk τ2 fo' _ _ _ hW2 hP hD hS (lv_sub hl [2, 3, 4, 5, 6, 7] rfl)
  refine lv_if_ne hx hb (off := 15) (tgt := 785) (by decide +kernel) (by decide) (fun _ => fin _ rfl) (fun hk0 => ?_)
  refine lv_aload_n hx hb (k := 3) (i := 3) (x := qo) (by decide +kernel) rfl (lv_at hl 5 rfl) ?_
  refine lv_iconst hx hb (n := 0) (v := 0) (by decide +kernel) rfl ?_
  refine va_lald hx hb hK hP (31 + 0) 2 (wOX_get (j := 0) rfl) rfl vp01 (by decide +kernel) ?_
  refine lv_iload hx hb (i := 7) (x := b') (by decide +kernel) (lv_at hl 0 rfl) ?_
  refine lv_i2l hx hb (by decide +kernel) rfl ?_
  refine W.lcmp hx hb (by decide +kernel) ?_
  refine lv_if_eq hx hb (off := 5) (tgt := 785) (by decide +kernel) (by decide) (fun _ => fin _ rfl) (fun h => absurd (gcmp (hv hk0)) h)
theorem cs_lockAt (F : LF D A ad adV cA p l s m args c b L xs) {B : Int} {τ : SZ} (hW : WL B τ) (hB : B + 400 ≤ 100000000) {i : Nat} (hi : i + 5 ≤ L) (hL : L ≤ 2560) {qo qd : Nat} {fo : Nat → Int64} {fd : Nat → UInt64} (hP : va_P D cls9 (LV ad cA qo qd (sz τ) fo fd) H) (hD : va_D A (LV ad cA qo qd (sz τ) fo fd)) (hS : va_S A s.heap H locs) (hc : cells + 2 ≤ room_1.cells) (hs : slots + 12 ≤ room_1.slots) {ls : Array Slot} (hl : lv_has ls 9 [(0, .ref b), (1, .ref (ad 0)), (2, .ref (ad 21)), (3, .ref qo), (4, .ref qd), (5, .int (nI i))])
    (kk : ∀ (τ' : SZ) (fo' : Nat → Int64) (H' : Heap) (locs' : List Loc) (ls' : Array Slot), WL (B + 200) τ' → va_P D cls9 (LV ad cA qo qd (sz τ') fo' fd) H' → va_D A (LV ad cA qo qd (sz τ') fo' fd) → va_S A s.heap H' locs' → lv_has ls' 9 [(0, .ref b), (1, .ref (ad 0)), (2, .ref (ad 21)), (3, .ref qo), (4, .ref qd), (5, .int (nI i))] → W p l e room_1 s m args below meth c H' locs' (cells + 2) (slots + 12) Q (F0 m 2491 ls' [])) : W p l e room_1 s m args below meth c H locs cells slots Q (F0 m 788 ls []) := by
  obtain ⟨hx, hb, hml, hown, hts, hK, hWX, hA, hN, hX, hbl, hbA, hl0⟩ := F
  obtain ⟨r, b', τ1, τ2, hr, hE, hm, ht, hW2, hu, hq⟩ := cal_rr (ad := ad) (cA := cA) (as' := [.inr (xs (i + 1)), .inr (xs (i + 2))]) (kc_lockAt hW hB (xs (i + 1)) (xs (i + 2))) (by simp only [List.map_cons, List.map_nil, vT1]) (by decide) (by decide)
  refine lv_aload_n hx hb (k := 1) (i := 1) (x := ad 0) (by decide +kernel) rfl (lv_at hl 1 rfl) ?_
  refine lv_aload_n hx hb (k := 0) (i := 0) (x := b) (by decide +kernel) rfl (lv_at hl 0 rfl) ?_
  refine lv_iload hx hb (i := 5) (x := nI i) (by decide +kernel) (lv_at hl 5 rfl) ?_
  refine lv_iconst hx hb (n := 1) (v := 1) (by decide +kernel) rfl ?_
  refine lv_iadd hx hb (x := nI i) (y := 1) (by decide +kernel) ?_
  rw [ia1]
  refine va_sld hx hb hX hbl hbA hS (vp_in_nI (n := i + 1) (by omega) (by omega)) (by decide +kernel) ?_
  rw [nI_clamp (show i + 1 < 2 ^ 31 by omega)]
  refine lv_aload_n hx hb (k := 0) (i := 0) (x := b) (by decide +kernel) rfl (lv_at hl 0 rfl) ?_
  refine lv_iload hx hb (i := 5) (x := nI i) (by decide +kernel) (lv_at hl 5 rfl) ?_
  refine lv_iconst hx hb (n := 2) (v := 2) (by decide +kernel) rfl ?_
  refine lv_iadd hx hb (x := nI i) (y := 2) (by decide +kernel) ?_
  rw [ia2]
  refine va_sld hx hb hX hbl hbA hS (vp_in_nI (n := i + 2) (by omega) (by omega)) (by decide +kernel) ?_
  rw [nI_clamp (show i + 2 < 2 ^ 31 by omega)]
  refine lv_aload_n hx hb (k := 3) (i := 3) (x := qo) (by decide +kernel) rfl (lv_at hl 3 rfl) ?_
  refine lm_call (own := RL) (x := 167) (n := 4) (rest := []) (w_lockAt (a1 := xs (i + 1)) (a2 := xs (i + 2)) (fo := fo) (qo := qo) (X := [(qd, .inl (cA 3, 1, .inr (.inr (.inr (.inl fd)))))]) hl0 hr hE) hx hts hb hown hP hD hK hWX hA hN hS (hl.1.trans hml.symm) (lz 52 rfl) (lz 53 rfl) (lz 54 rfl) (lz 3 rfl) ⟨by decide, by decide, by decide +kernel⟩ rfl ⟨by decide, by decide, hc, hs⟩ (by decide) (by decide +kernel) rfl (fun k W' hG H locs hP hD hS => ?_)
  obtain ⟨fo', rfl, hk, hv⟩ := hu _ _ _ _ _ hG
  refine lv_istore hx hb (i := 6) (lv' := [(6, .int k), (0, .ref b), (1, .ref (ad 0)), (2, .ref (ad 21)), (3, .ref qo), (4, .ref qd), (5, .int (nI i))]) (by decide +kernel) hl (by decide) rfl (fun ls hl => ?_)
  refine lv_aload_n hx hb (k := 2) (i := 2) (x := ad 21) (by decide +kernel) rfl (lv_at hl 3 rfl) ?_
  refine lv_aload_n hx hb (k := 0) (i := 0) (x := b) (by decide +kernel) rfl (lv_at hl 1 rfl) ?_
  refine lv_iload hx hb (i := 5) (x := nI i) (by decide +kernel) (lv_at hl 6 rfl) ?_
  refine lv_iconst hx hb (n := 1) (v := 1) (by decide +kernel) rfl ?_
  refine lv_iadd hx hb (x := nI i) (y := 1) (by decide +kernel) ?_
  rw [ia1]
  refine va_sld hx hb hX hbl hbA hS (vp_in_nI (n := i + 1) (by omega) (by omega)) (by decide +kernel) ?_
  rw [nI_clamp (show i + 1 < 2 ^ 31 by omega)]
  refine lv_aload_n hx hb (k := 0) (i := 0) (x := b) (by decide +kernel) rfl (lv_at hl 1 rfl) ?_
  refine lv_iload hx hb (i := 5) (x := nI i) (by decide +kernel) (lv_at hl 6 rfl) ?_
  refine lv_iconst hx hb (n := 2) (v := 2) (by decide +kernel) rfl ?_
  refine lv_iadd hx hb (x := nI i) (y := 2) (by decide +kernel) ?_
  rw [ia2]
  refine va_sld hx hb hX hbl hbA hS (vp_in_nI (n := i + 2) (by omega) (by omega)) (by decide +kernel) ?_
  rw [nI_clamp (show i + 2 < 2 ^ 31 by omega)]
  refine lcall (d := 12) (j := m8_lockAt) (a := 21) (as := [.inr (xs (i + 1)), .inr (xs (i + 2))]) (X := [(qo, .inl (cA 2, 1, .inr (.inl fo'))), (qd, .inl (cA 3, 1, .inr (.inr (.inr (.inl fd)))))]) (own := RL) (x := 169) (rest := []) hl0 hm (by decide) rfl rfl hx hts hb hown hP hD hK hWX hA hS (hl.1.trans hml.symm) (lz 55 rfl) (lz 56 rfl) (lz 57 rfl) ⟨by decide, by decide, r0 rfl hc, r6 rfl hs⟩ (by decide) (by decide +kernel) rfl (fun E τ e => by cases e) (fun v τ e H locs hP hS => ?_)
  cases e
  have hD := wOX_D (τ := sz τ2) hD
  refine W.widen (k := cells + 2) (n := slots + 12) (w0 rfl) (w6 rfl) ?_
  refine W.eq (g2 := F0 m 823 ls [.int b']) rfl ?_
  refine lv_istore hx hb (i := 7) (lv' := [(7, .int b'), (6, .int k), (0, .ref b), (1, .ref (ad 0)), (2, .ref (ad 21)), (3, .ref qo), (4, .ref qd), (5, .int (nI i))]) (by decide +kernel) hl (by decide) rfl (fun ls hl => ?_)
  refine lv_aload_n hx hb (k := 2) (i := 2) (x := ad 21) (by decide +kernel) rfl (lv_at hl 4 rfl) ?_
  refine lcall (d := 12) (j := m8_thrown) (a := 21) (as := []) (X := [(qo, .inl (cA 2, 1, .inr (.inl fo'))), (qd, .inl (cA 3, 1, .inr (.inr (.inr (.inl fd)))))]) (own := RL) (x := 140) (rest := []) hl0 ht (by decide) rfl rfl hx hts hb hown hP hD hK hWX hA hS (hl.1.trans hml.symm) (lz 7 rfl) (lz 8 rfl) (lz 9 rfl) ⟨by decide, by decide, r0 rfl hc, r6 rfl hs⟩ (by decide) (by decide +kernel) rfl (fun E τ e => by cases e) (fun v τ e H locs hP hS => ?_)
  cases e
  have hD := wOX_D (τ := sz τ2) hD
  refine W.widen (k := cells + 2) (n := slots + 12) (w0 rfl) (w6 rfl) ?_
  refine W.eq (g2 := F0 m 829 ls [.int (iI (τ2 21 7))]) rfl ?_
  refine lv_iload hx hb (i := 6) (x := k) (by decide +kernel) (lv_at hl 1 rfl) ?_
  refine lv_icmp_eq hx hb (off := 5) (tgt := 836) (by decide +kernel) (by decide) (fun _ => ?_) (fun h => absurd hk h)
  refine lv_iload hx hb (i := 6) (x := k) (by decide +kernel) (lv_at hl 1 rfl) ?_
  have fin : ∀ pc9 : Nat, pc9 = 853 → W p l e room_1 s m args below meth c H locs (cells + 2) (slots + 12) Q (F0 m pc9 ls []) := by
    rintro _ rfl
    refine lv_goto hx hb (off := 1638) (tgt := 2491) (by decide +kernel) (by decide) ?_
    exact kk τ2 fo' _ _ _ hW2 hP hD hS (lv_sub hl [2, 3, 4, 5, 6, 7] rfl)
  refine lv_if_ne hx hb (off := 15) (tgt := 853) (by decide +kernel) (by decide) (fun _ => fin _ rfl) (fun hk0 => ?_)
  refine lv_aload_n hx hb (k := 3) (i := 3) (x := qo) (by decide +kernel) rfl (lv_at hl 5 rfl) ?_
  refine lv_iconst hx hb (n := 0) (v := 0) (by decide +kernel) rfl ?_
  refine va_lald hx hb hK hP (31 + 0) 2 (wOX_get (j := 0) rfl) rfl vp01 (by decide +kernel) ?_
  refine lv_iload hx hb (i := 7) (x := b') (by decide +kernel) (lv_at hl 0 rfl) ?_
  refine lv_i2l hx hb (by decide +kernel) rfl ?_
  refine W.lcmp hx hb (by decide +kernel) ?_
  refine lv_if_eq hx hb (off := 5) (tgt := 853) (by decide +kernel) (by decide) (fun _ => fin _ rfl) (fun h => absurd (gcmp (hv hk0)) h)
theorem cs_isFog (F : LF D A ad adV cA p l s m args c b L xs) {B : Int} {τ : SZ} (hW : WL B τ) (hB : B + 400 ≤ 100000000) {i : Nat} (hi : i + 5 ≤ L) (hL : L ≤ 2560) {qo qd : Nat} {fo : Nat → Int64} {fd : Nat → UInt64} (hP : va_P D cls9 (LV ad cA qo qd (sz τ) fo fd) H) (hD : va_D A (LV ad cA qo qd (sz τ) fo fd)) (hS : va_S A s.heap H locs) (hc : cells + 2 ≤ room_1.cells) (hs : slots + 12 ≤ room_1.slots) {ls : Array Slot} (hl : lv_has ls 9 [(0, .ref b), (1, .ref (ad 0)), (2, .ref (ad 21)), (3, .ref qo), (4, .ref qd), (5, .int (nI i))])
    (kk : ∀ (τ' : SZ) (fo' : Nat → Int64) (H' : Heap) (locs' : List Loc) (ls' : Array Slot), WL (B + 200) τ' → va_P D cls9 (LV ad cA qo qd (sz τ') fo' fd) H' → va_D A (LV ad cA qo qd (sz τ') fo' fd) → va_S A s.heap H' locs' → lv_has ls' 9 [(0, .ref b), (1, .ref (ad 0)), (2, .ref (ad 21)), (3, .ref qo), (4, .ref qd), (5, .int (nI i))] → W p l e room_1 s m args below meth c H' locs' (cells + 2) (slots + 12) Q (F0 m 2491 ls' [])) : W p l e room_1 s m args below meth c H locs cells slots Q (F0 m 856 ls []) := by
  obtain ⟨hx, hb, hml, hown, hts, hK, hWX, hA, hN, hX, hbl, hbA, hl0⟩ := F
  obtain ⟨r, b', τ1, τ2, hr, hE, hm, ht, hW2, hu, hq⟩ := cal_rr (ad := ad) (cA := cA) (as' := [.inr (xs (i + 1)), .inr (xs (i + 2))]) (kc_isFog hW hB (xs (i + 1)) (xs (i + 2))) (by simp only [List.map_cons, List.map_nil, vT1]) (by decide) (by decide)
  refine lv_aload_n hx hb (k := 1) (i := 1) (x := ad 0) (by decide +kernel) rfl (lv_at hl 1 rfl) ?_
  refine lv_aload_n hx hb (k := 0) (i := 0) (x := b) (by decide +kernel) rfl (lv_at hl 0 rfl) ?_
  refine lv_iload hx hb (i := 5) (x := nI i) (by decide +kernel) (lv_at hl 5 rfl) ?_
  refine lv_iconst hx hb (n := 1) (v := 1) (by decide +kernel) rfl ?_
  refine lv_iadd hx hb (x := nI i) (y := 1) (by decide +kernel) ?_
  rw [ia1]
  refine va_sld hx hb hX hbl hbA hS (vp_in_nI (n := i + 1) (by omega) (by omega)) (by decide +kernel) ?_
  rw [nI_clamp (show i + 1 < 2 ^ 31 by omega)]
  refine lv_aload_n hx hb (k := 0) (i := 0) (x := b) (by decide +kernel) rfl (lv_at hl 0 rfl) ?_
  refine lv_iload hx hb (i := 5) (x := nI i) (by decide +kernel) (lv_at hl 5 rfl) ?_
  refine lv_iconst hx hb (n := 2) (v := 2) (by decide +kernel) rfl ?_
  refine lv_iadd hx hb (x := nI i) (y := 2) (by decide +kernel) ?_
  rw [ia2]
  refine va_sld hx hb hX hbl hbA hS (vp_in_nI (n := i + 2) (by omega) (by omega)) (by decide +kernel) ?_
  rw [nI_clamp (show i + 2 < 2 ^ 31 by omega)]
  refine lv_aload_n hx hb (k := 3) (i := 3) (x := qo) (by decide +kernel) rfl (lv_at hl 3 rfl) ?_
  refine lm_call (own := RL) (x := 170) (n := 4) (rest := []) (w_isFog (a1 := xs (i + 1)) (a2 := xs (i + 2)) (fo := fo) (qo := qo) (X := [(qd, .inl (cA 3, 1, .inr (.inr (.inr (.inl fd)))))]) hl0 hr hE) hx hts hb hown hP hD hK hWX hA hN hS (hl.1.trans hml.symm) (lz 58 rfl) (lz 59 rfl) (lz 60 rfl) (lz 3 rfl) ⟨by decide, by decide, by decide +kernel⟩ rfl ⟨by decide, by decide, hc, hs⟩ (by decide) (by decide +kernel) rfl (fun k W' hG H locs hP hD hS => ?_)
  obtain ⟨fo', rfl, hk, hv⟩ := hu _ _ _ _ _ hG
  refine lv_istore hx hb (i := 6) (lv' := [(6, .int k), (0, .ref b), (1, .ref (ad 0)), (2, .ref (ad 21)), (3, .ref qo), (4, .ref qd), (5, .int (nI i))]) (by decide +kernel) hl (by decide) rfl (fun ls hl => ?_)
  refine lv_aload_n hx hb (k := 2) (i := 2) (x := ad 21) (by decide +kernel) rfl (lv_at hl 3 rfl) ?_
  refine lv_aload_n hx hb (k := 0) (i := 0) (x := b) (by decide +kernel) rfl (lv_at hl 1 rfl) ?_
  refine lv_iload hx hb (i := 5) (x := nI i) (by decide +kernel) (lv_at hl 6 rfl) ?_
  refine lv_iconst hx hb (n := 1) (v := 1) (by decide +kernel) rfl ?_
  refine lv_iadd hx hb (x := nI i) (y := 1) (by decide +kernel) ?_
  rw [ia1]
  refine va_sld hx hb hX hbl hbA hS (vp_in_nI (n := i + 1) (by omega) (by omega)) (by decide +kernel) ?_
  rw [nI_clamp (show i + 1 < 2 ^ 31 by omega)]
  refine lv_aload_n hx hb (k := 0) (i := 0) (x := b) (by decide +kernel) rfl (lv_at hl 1 rfl) ?_
  refine lv_iload hx hb (i := 5) (x := nI i) (by decide +kernel) (lv_at hl 6 rfl) ?_
  refine lv_iconst hx hb (n := 2) (v := 2) (by decide +kernel) rfl ?_
  refine lv_iadd hx hb (x := nI i) (y := 2) (by decide +kernel) ?_
  rw [ia2]
  refine va_sld hx hb hX hbl hbA hS (vp_in_nI (n := i + 2) (by omega) (by omega)) (by decide +kernel) ?_
  rw [nI_clamp (show i + 2 < 2 ^ 31 by omega)]
  refine lcall (d := 12) (j := m8_isFog) (a := 21) (as := [.inr (xs (i + 1)), .inr (xs (i + 2))]) (X := [(qo, .inl (cA 2, 1, .inr (.inl fo'))), (qd, .inl (cA 3, 1, .inr (.inr (.inr (.inl fd)))))]) (own := RL) (x := 172) (rest := []) hl0 hm (by decide) rfl rfl hx hts hb hown hP hD hK hWX hA hS (hl.1.trans hml.symm) (lz 61 rfl) (lz 62 rfl) (lz 63 rfl) ⟨by decide, by decide, r0 rfl hc, r6 rfl hs⟩ (by decide) (by decide +kernel) rfl (fun E τ e => by cases e) (fun v τ e H locs hP hS => ?_)
  cases e
  have hD := wOX_D (τ := sz τ2) hD
  refine W.widen (k := cells + 2) (n := slots + 12) (w0 rfl) (w6 rfl) ?_
  refine W.eq (g2 := F0 m 891 ls [.int b']) rfl ?_
  refine lv_istore hx hb (i := 7) (lv' := [(7, .int b'), (6, .int k), (0, .ref b), (1, .ref (ad 0)), (2, .ref (ad 21)), (3, .ref qo), (4, .ref qd), (5, .int (nI i))]) (by decide +kernel) hl (by decide) rfl (fun ls hl => ?_)
  refine lv_aload_n hx hb (k := 2) (i := 2) (x := ad 21) (by decide +kernel) rfl (lv_at hl 4 rfl) ?_
  refine lcall (d := 12) (j := m8_thrown) (a := 21) (as := []) (X := [(qo, .inl (cA 2, 1, .inr (.inl fo'))), (qd, .inl (cA 3, 1, .inr (.inr (.inr (.inl fd)))))]) (own := RL) (x := 140) (rest := []) hl0 ht (by decide) rfl rfl hx hts hb hown hP hD hK hWX hA hS (hl.1.trans hml.symm) (lz 7 rfl) (lz 8 rfl) (lz 9 rfl) ⟨by decide, by decide, r0 rfl hc, r6 rfl hs⟩ (by decide) (by decide +kernel) rfl (fun E τ e => by cases e) (fun v τ e H locs hP hS => ?_)
  cases e
  have hD := wOX_D (τ := sz τ2) hD
  refine W.widen (k := cells + 2) (n := slots + 12) (w0 rfl) (w6 rfl) ?_
  refine W.eq (g2 := F0 m 897 ls [.int (iI (τ2 21 7))]) rfl ?_
  refine lv_iload hx hb (i := 6) (x := k) (by decide +kernel) (lv_at hl 1 rfl) ?_
  refine lv_icmp_eq hx hb (off := 5) (tgt := 904) (by decide +kernel) (by decide) (fun _ => ?_) (fun h => absurd hk h)
  refine lv_iload hx hb (i := 6) (x := k) (by decide +kernel) (lv_at hl 1 rfl) ?_
  have fin : ∀ pc9 : Nat, pc9 = 928 → W p l e room_1 s m args below meth c H locs (cells + 2) (slots + 12) Q (F0 m pc9 ls []) := by
    rintro _ rfl
    refine lv_goto hx hb (off := 1563) (tgt := 2491) (by decide +kernel) (by decide) ?_
    exact kk τ2 fo' _ _ _ hW2 hP hD hS (lv_sub hl [2, 3, 4, 5, 6, 7] rfl)
  refine lv_if_ne hx hb (off := 22) (tgt := 928) (by decide +kernel) (by decide) (fun _ => fin _ rfl) (fun hk0 => ?_)
  refine lv_aload_n hx hb (k := 3) (i := 3) (x := qo) (by decide +kernel) rfl (lv_at hl 5 rfl) ?_
  refine lv_iconst hx hb (n := 0) (v := 0) (by decide +kernel) rfl ?_
  refine va_lald hx hb hK hP (31 + 0) 2 (wOX_get (j := 0) rfl) rfl vp01 (by decide +kernel) ?_
  refine lv_iload hx hb (i := 7) (x := b') (by decide +kernel) (lv_at hl 0 rfl) ?_
  refine lbl hx hb (off0 := 7) (t := 921) (off1 := 4) (y := 922) (by decide +kernel) (by decide) (by decide +kernel) (by decide +kernel) (by decide) (by decide +kernel) rfl ?_
  refine W.lcmp hx hb (by decide +kernel) ?_
  refine lv_if_eq hx hb (off := 5) (tgt := 928) (by decide +kernel) (by decide) (fun _ => fin _ rfl) (fun h => absurd (gcmp (hv hk0)) h)
theorem cs_turn (F : LF D A ad adV cA p l s m args c b L xs) {B : Int} {τ : SZ} (hW : WL B τ) (hB : B + 400 ≤ 100000000) {i : Nat} (hi : i + 5 ≤ L) (hL : L ≤ 2560) {qo qd : Nat} {fo : Nat → Int64} {fd : Nat → UInt64} (hP : va_P D cls9 (LV ad cA qo qd (sz τ) fo fd) H) (hD : va_D A (LV ad cA qo qd (sz τ) fo fd)) (hS : va_S A s.heap H locs) (hc : cells + 2 ≤ room_1.cells) (hs : slots + 12 ≤ room_1.slots) {ls : Array Slot} (hl : lv_has ls 9 [(0, .ref b), (1, .ref (ad 0)), (2, .ref (ad 21)), (3, .ref qo), (4, .ref qd), (5, .int (nI i))])
    (kk : ∀ (τ' : SZ) (fo' : Nat → Int64) (H' : Heap) (locs' : List Loc) (ls' : Array Slot), WL (B + 200) τ' → va_P D cls9 (LV ad cA qo qd (sz τ') fo' fd) H' → va_D A (LV ad cA qo qd (sz τ') fo' fd) → va_S A s.heap H' locs' → lv_has ls' 9 [(0, .ref b), (1, .ref (ad 0)), (2, .ref (ad 21)), (3, .ref qo), (4, .ref qd), (5, .int (nI i))] → W p l e room_1 s m args below meth c H' locs' (cells + 2) (slots + 12) Q (F0 m 2491 ls' [])) : W p l e room_1 s m args below meth c H locs cells slots Q (F0 m 931 ls []) := by
  obtain ⟨hx, hb, hml, hown, hts, hK, hWX, hA, hN, hX, hbl, hbA, hl0⟩ := F
  obtain ⟨r, b', τ1, τ2, hr, hE, hm, ht, hW2, hu, hq⟩ := cal_rr (ad := ad) (cA := cA) (as' := []) (kc_turn hW hB) (by simp only [List.map_cons, List.map_nil, vT1]) (by decide) (by decide)
  obtain rfl := hq rfl
  refine lv_aload_n hx hb (k := 1) (i := 1) (x := ad 0) (by decide +kernel) rfl (lv_at hl 1 rfl) ?_
  refine lcall (d := 12) (j := m7_turn) (a := 0) (as := []) (X := [(qo, .inl (cA 2, 1, .inr (.inl fo))), (qd, .inl (cA 3, 1, .inr (.inr (.inr (.inl fd)))))]) (own := RL) (x := 173) (rest := []) hl0 hr (by decide) rfl rfl hx hts hb hown hP hD hK hWX hA hS (hl.1.trans hml.symm) (lz 64 rfl) (lz 65 rfl) (lz 66 rfl) ⟨by decide, by decide, r0 rfl (Nat.le_trans (by omega) hc), r6 rfl (Nat.le_trans (by omega) hs)⟩ (by decide) (by decide +kernel) rfl (fun E τ e => by cases e) (fun v τ e H locs hP hS => ?_)
  cases e
  have hD := wOX_D (τ := τ1) hD
  refine W.widen (k := cells + 2) (n := slots + 12) (w2 rfl) (w12 rfl) ?_
  refine W.eq (g2 := F0 m 935 ls [.int b']) rfl ?_
  refine lv_aload_n hx hb (k := 2) (i := 2) (x := ad 21) (by decide +kernel) rfl (lv_at hl 2 rfl) ?_
  refine lcall (d := 12) (j := m8_turn) (a := 21) (as := []) (X := [(qo, .inl (cA 2, 1, .inr (.inl fo))), (qd, .inl (cA 3, 1, .inr (.inr (.inr (.inl fd)))))]) (own := RL) (x := 176) (rest := [.int b']) hl0 hm (by decide) rfl rfl hx hts hb hown hP hD hK hWX hA hS (hl.1.trans hml.symm) (lz 67 rfl) (lz 68 rfl) (lz 69 rfl) ⟨by decide, by decide, r0 rfl hc, r6 rfl hs⟩ (by show (1 : Nat) ≤ 8; decide) (by decide +kernel) rfl (fun E τ e => by cases e) (fun v τ e H locs hP hS => ?_)
  cases e
  have hD := wOX_D (τ := sz τ2) hD
  refine W.widen (k := cells + 2) (n := slots + 12) (w0 rfl) (w6 rfl) ?_
  refine W.eq (g2 := F0 m 939 ls [.int b', .int b']) rfl ?_
  refine lv_icmp_eq hx hb (off := 1552) (tgt := 2491) (by decide +kernel) (by decide) (fun _ => ?_) (fun h => absurd rfl h)
  exact kk τ2 fo _ _ _ hW2 hP hD hS (lv_sub hl [0, 1, 2, 3, 4, 5] rfl)
theorem cs_would (F : LF D A ad adV cA p l s m args c b L xs) {B : Int} {τ : SZ} (hW : WL B τ) (hB : B + 400 ≤ 100000000) {i : Nat} (hi : i + 5 ≤ L) (hL : L ≤ 2560) {qo qd : Nat} {fo : Nat → Int64} {fd : Nat → UInt64} (hP : va_P D cls9 (LV ad cA qo qd (sz τ) fo fd) H) (hD : va_D A (LV ad cA qo qd (sz τ) fo fd)) (hS : va_S A s.heap H locs) (hc : cells + 2 ≤ room_1.cells) (hs : slots + 12 ≤ room_1.slots) {ls : Array Slot} (hl : lv_has ls 9 [(0, .ref b), (1, .ref (ad 0)), (2, .ref (ad 21)), (3, .ref qo), (4, .ref qd), (5, .int (nI i))])
    (kk : ∀ (τ' : SZ) (fo' : Nat → Int64) (H' : Heap) (locs' : List Loc) (ls' : Array Slot), WL (B + 200) τ' → va_P D cls9 (LV ad cA qo qd (sz τ') fo' fd) H' → va_D A (LV ad cA qo qd (sz τ') fo' fd) → va_S A s.heap H' locs' → lv_has ls' 9 [(0, .ref b), (1, .ref (ad 0)), (2, .ref (ad 21)), (3, .ref qo), (4, .ref qd), (5, .int (nI i))] → W p l e room_1 s m args below meth c H' locs' (cells + 2) (slots + 12) Q (F0 m 2491 ls' [])) : W p l e room_1 s m args below meth c H locs cells slots Q (F0 m 944 ls []) := by
  obtain ⟨hx, hb, hml, hown, hts, hK, hWX, hA, hN, hX, hbl, hbA, hl0⟩ := F
  obtain ⟨r, b', τ1, τ2, hr, hE, hm, ht, hW2, hu, hq⟩ := cal_rr (ad := ad) (cA := cA) (as' := [.inr (xs (i + 1)), .inr (xs (i + 2)), .inr (zB (xs (i + 3)))]) (kc_would hW hB (xs (i + 1)) (xs (i + 2)) (xs (i + 3))) (by simp only [List.map_cons, List.map_nil, vT1]) (by decide) (by decide)
  refine lv_aload_n hx hb (k := 1) (i := 1) (x := ad 0) (by decide +kernel) rfl (lv_at hl 1 rfl) ?_
  refine lv_aload_n hx hb (k := 0) (i := 0) (x := b) (by decide +kernel) rfl (lv_at hl 0 rfl) ?_
  refine lv_iload hx hb (i := 5) (x := nI i) (by decide +kernel) (lv_at hl 5 rfl) ?_
  refine lv_iconst hx hb (n := 1) (v := 1) (by decide +kernel) rfl ?_
  refine lv_iadd hx hb (x := nI i) (y := 1) (by decide +kernel) ?_
  rw [ia1]
  refine va_sld hx hb hX hbl hbA hS (vp_in_nI (n := i + 1) (by omega) (by omega)) (by decide +kernel) ?_
  rw [nI_clamp (show i + 1 < 2 ^ 31 by omega)]
  refine lv_aload_n hx hb (k := 0) (i := 0) (x := b) (by decide +kernel) rfl (lv_at hl 0 rfl) ?_
  refine lv_iload hx hb (i := 5) (x := nI i) (by decide +kernel) (lv_at hl 5 rfl) ?_
  refine lv_iconst hx hb (n := 2) (v := 2) (by decide +kernel) rfl ?_
  refine lv_iadd hx hb (x := nI i) (y := 2) (by decide +kernel) ?_
  rw [ia2]
  refine va_sld hx hb hX hbl hbA hS (vp_in_nI (n := i + 2) (by omega) (by omega)) (by decide +kernel) ?_
  rw [nI_clamp (show i + 2 < 2 ^ 31 by omega)]
  refine lv_aload_n hx hb (k := 0) (i := 0) (x := b) (by decide +kernel) rfl (lv_at hl 0 rfl) ?_
  refine lv_iload hx hb (i := 5) (x := nI i) (by decide +kernel) (lv_at hl 5 rfl) ?_
  refine lv_iconst hx hb (n := 3) (v := 3) (by decide +kernel) rfl ?_
  refine lv_iadd hx hb (x := nI i) (y := 3) (by decide +kernel) ?_
  rw [ia3]
  refine va_sld hx hb hX hbl hbA hS (vp_in_nI (n := i + 3) (by omega) (by omega)) (by decide +kernel) ?_
  rw [nI_clamp (show i + 3 < 2 ^ 31 by omega)]
  refine lbool hx hb (off0 := 7) (t := 970) (off1 := 4) (y := 971) (by decide +kernel) (by decide) (by decide +kernel) (by decide +kernel) (by decide) (by decide +kernel) rfl ?_
  refine lv_aload_n hx hb (k := 3) (i := 3) (x := qo) (by decide +kernel) rfl (lv_at hl 3 rfl) ?_
  refine lm_call (own := RL) (x := 177) (n := 5) (rest := []) (w_would (a1 := xs (i + 1)) (a2 := xs (i + 2)) (a3 := zB (xs (i + 3))) (fo := fo) (qo := qo) (X := [(qd, .inl (cA 3, 1, .inr (.inr (.inr (.inl fd)))))]) hl0 hr hE) hx hts hb hown hP hD hK hWX hA hN hS (hl.1.trans hml.symm) (lz 70 rfl) (lz 71 rfl) (lz 72 rfl) (lz 3 rfl) ⟨by decide, by decide, by decide +kernel⟩ rfl ⟨by decide, by decide, hc, hs⟩ (by decide) (by decide +kernel) rfl (fun k W' hG H locs hP hD hS => ?_)
  obtain ⟨fo', rfl, hk, hv⟩ := hu _ _ _ _ _ hG
  refine lv_istore hx hb (i := 6) (lv' := [(6, .int k), (0, .ref b), (1, .ref (ad 0)), (2, .ref (ad 21)), (3, .ref qo), (4, .ref qd), (5, .int (nI i))]) (by decide +kernel) hl (by decide) rfl (fun ls hl => ?_)
  refine lv_aload_n hx hb (k := 2) (i := 2) (x := ad 21) (by decide +kernel) rfl (lv_at hl 3 rfl) ?_
  refine lv_aload_n hx hb (k := 0) (i := 0) (x := b) (by decide +kernel) rfl (lv_at hl 1 rfl) ?_
  refine lv_iload hx hb (i := 5) (x := nI i) (by decide +kernel) (lv_at hl 6 rfl) ?_
  refine lv_iconst hx hb (n := 1) (v := 1) (by decide +kernel) rfl ?_
  refine lv_iadd hx hb (x := nI i) (y := 1) (by decide +kernel) ?_
  rw [ia1]
  refine va_sld hx hb hX hbl hbA hS (vp_in_nI (n := i + 1) (by omega) (by omega)) (by decide +kernel) ?_
  rw [nI_clamp (show i + 1 < 2 ^ 31 by omega)]
  refine lv_aload_n hx hb (k := 0) (i := 0) (x := b) (by decide +kernel) rfl (lv_at hl 1 rfl) ?_
  refine lv_iload hx hb (i := 5) (x := nI i) (by decide +kernel) (lv_at hl 6 rfl) ?_
  refine lv_iconst hx hb (n := 2) (v := 2) (by decide +kernel) rfl ?_
  refine lv_iadd hx hb (x := nI i) (y := 2) (by decide +kernel) ?_
  rw [ia2]
  refine va_sld hx hb hX hbl hbA hS (vp_in_nI (n := i + 2) (by omega) (by omega)) (by decide +kernel) ?_
  rw [nI_clamp (show i + 2 < 2 ^ 31 by omega)]
  refine lv_aload_n hx hb (k := 0) (i := 0) (x := b) (by decide +kernel) rfl (lv_at hl 1 rfl) ?_
  refine lv_iload hx hb (i := 5) (x := nI i) (by decide +kernel) (lv_at hl 6 rfl) ?_
  refine lv_iconst hx hb (n := 3) (v := 3) (by decide +kernel) rfl ?_
  refine lv_iadd hx hb (x := nI i) (y := 3) (by decide +kernel) ?_
  rw [ia3]
  refine va_sld hx hb hX hbl hbA hS (vp_in_nI (n := i + 3) (by omega) (by omega)) (by decide +kernel) ?_
  rw [nI_clamp (show i + 3 < 2 ^ 31 by omega)]
  refine lbool hx hb (off0 := 7) (t := 1003) (off1 := 4) (y := 1004) (by decide +kernel) (by decide) (by decide +kernel) (by decide +kernel) (by decide) (by decide +kernel) rfl ?_
  refine lcall (d := 12) (j := m8_would) (a := 21) (as := [.inr (xs (i + 1)), .inr (xs (i + 2)), .inr (zB (xs (i + 3)))]) (X := [(qo, .inl (cA 2, 1, .inr (.inl fo'))), (qd, .inl (cA 3, 1, .inr (.inr (.inr (.inl fd)))))]) (own := RL) (x := 179) (rest := []) hl0 hm (by decide) rfl rfl hx hts hb hown hP hD hK hWX hA hS (hl.1.trans hml.symm) (lz 73 rfl) (lz 74 rfl) (lz 75 rfl) ⟨by decide, by decide, r0 rfl hc, r6 rfl hs⟩ (by decide) (by decide +kernel) rfl (fun E τ e => by cases e) (fun v τ e H locs hP hS => ?_)
  cases e
  have hD := wOX_D (τ := sz τ2) hD
  refine W.widen (k := cells + 2) (n := slots + 12) (w0 rfl) (w6 rfl) ?_
  refine W.eq (g2 := F0 m 1007 ls [.int b']) rfl ?_
  refine lv_istore hx hb (i := 7) (lv' := [(7, .int b'), (6, .int k), (0, .ref b), (1, .ref (ad 0)), (2, .ref (ad 21)), (3, .ref qo), (4, .ref qd), (5, .int (nI i))]) (by decide +kernel) hl (by decide) rfl (fun ls hl => ?_)
  refine lv_aload_n hx hb (k := 2) (i := 2) (x := ad 21) (by decide +kernel) rfl (lv_at hl 4 rfl) ?_
  refine lcall (d := 12) (j := m8_thrown) (a := 21) (as := []) (X := [(qo, .inl (cA 2, 1, .inr (.inl fo'))), (qd, .inl (cA 3, 1, .inr (.inr (.inr (.inl fd)))))]) (own := RL) (x := 140) (rest := []) hl0 ht (by decide) rfl rfl hx hts hb hown hP hD hK hWX hA hS (hl.1.trans hml.symm) (lz 7 rfl) (lz 8 rfl) (lz 9 rfl) ⟨by decide, by decide, r0 rfl hc, r6 rfl hs⟩ (by decide) (by decide +kernel) rfl (fun E τ e => by cases e) (fun v τ e H locs hP hS => ?_)
  cases e
  have hD := wOX_D (τ := sz τ2) hD
  refine W.widen (k := cells + 2) (n := slots + 12) (w0 rfl) (w6 rfl) ?_
  refine W.eq (g2 := F0 m 1013 ls [.int (iI (τ2 21 7))]) rfl ?_
  refine lv_iload hx hb (i := 6) (x := k) (by decide +kernel) (lv_at hl 1 rfl) ?_
  refine lv_icmp_eq hx hb (off := 5) (tgt := 1020) (by decide +kernel) (by decide) (fun _ => ?_) (fun h => absurd hk h)
  refine lv_iload hx hb (i := 6) (x := k) (by decide +kernel) (lv_at hl 1 rfl) ?_
  have fin : ∀ pc9 : Nat, pc9 = 1037 → W p l e room_1 s m args below meth c H locs (cells + 2) (slots + 12) Q (F0 m pc9 ls []) := by
    rintro _ rfl
    refine lv_goto hx hb (off := 1454) (tgt := 2491) (by decide +kernel) (by decide) ?_
    exact kk τ2 fo' _ _ _ hW2 hP hD hS (lv_sub hl [2, 3, 4, 5, 6, 7] rfl)
  refine lv_if_ne hx hb (off := 15) (tgt := 1037) (by decide +kernel) (by decide) (fun _ => fin _ rfl) (fun hk0 => ?_)
  refine lv_aload_n hx hb (k := 3) (i := 3) (x := qo) (by decide +kernel) rfl (lv_at hl 5 rfl) ?_
  refine lv_iconst hx hb (n := 0) (v := 0) (by decide +kernel) rfl ?_
  refine va_lald hx hb hK hP (31 + 0) 2 (wOX_get (j := 0) rfl) rfl vp01 (by decide +kernel) ?_
  refine lv_iload hx hb (i := 7) (x := b') (by decide +kernel) (lv_at hl 0 rfl) ?_
  refine lv_i2l hx hb (by decide +kernel) rfl ?_
  refine W.lcmp hx hb (by decide +kernel) ?_
  refine lv_if_eq hx hb (off := 5) (tgt := 1037) (by decide +kernel) (by decide) (fun _ => fin _ rfl) (fun h => absurd (gcmp (hv hk0)) h)
theorem cs_why (F : LF D A ad adV cA p l s m args c b L xs) {B : Int} {τ : SZ} (hW : WL B τ) (hB : B + 400 ≤ 100000000) {i : Nat} (hi : i + 5 ≤ L) (hL : L ≤ 2560) {qo qd : Nat} {fo : Nat → Int64} {fd : Nat → UInt64} (hP : va_P D cls9 (LV ad cA qo qd (sz τ) fo fd) H) (hD : va_D A (LV ad cA qo qd (sz τ) fo fd)) (hS : va_S A s.heap H locs) (hc : cells + 2 ≤ room_1.cells) (hs : slots + 12 ≤ room_1.slots) {ls : Array Slot} (hl : lv_has ls 9 [(0, .ref b), (1, .ref (ad 0)), (2, .ref (ad 21)), (3, .ref qo), (4, .ref qd), (5, .int (nI i))])
    (kk : ∀ (τ' : SZ) (fo' : Nat → Int64) (H' : Heap) (locs' : List Loc) (ls' : Array Slot), WL (B + 200) τ' → va_P D cls9 (LV ad cA qo qd (sz τ') fo' fd) H' → va_D A (LV ad cA qo qd (sz τ') fo' fd) → va_S A s.heap H' locs' → lv_has ls' 9 [(0, .ref b), (1, .ref (ad 0)), (2, .ref (ad 21)), (3, .ref qo), (4, .ref qd), (5, .int (nI i))] → W p l e room_1 s m args below meth c H' locs' (cells + 2) (slots + 12) Q (F0 m 2491 ls' [])) : W p l e room_1 s m args below meth c H locs cells slots Q (F0 m 1040 ls []) := by
  obtain ⟨hx, hb, hml, hown, hts, hK, hWX, hA, hN, hX, hbl, hbA, hl0⟩ := F
  obtain ⟨r, b', τ1, τ2, hr, hE, hm, ht, hW2, hu, hq⟩ := cal_rr (ad := ad) (cA := cA) (as' := [.inr (xs (i + 1)), .inr (xs (i + 2)), .inr (zB (xs (i + 3))), .inr (zB (xs (i + 4)))]) (kc_why hW hB (xs (i + 1)) (xs (i + 2)) (xs (i + 3)) (xs (i + 4))) (by simp only [List.map_cons, List.map_nil, vT1]) (by decide) (by decide)
  refine lv_aload_n hx hb (k := 1) (i := 1) (x := ad 0) (by decide +kernel) rfl (lv_at hl 1 rfl) ?_
  refine lv_aload_n hx hb (k := 0) (i := 0) (x := b) (by decide +kernel) rfl (lv_at hl 0 rfl) ?_
  refine lv_iload hx hb (i := 5) (x := nI i) (by decide +kernel) (lv_at hl 5 rfl) ?_
  refine lv_iconst hx hb (n := 1) (v := 1) (by decide +kernel) rfl ?_
  refine lv_iadd hx hb (x := nI i) (y := 1) (by decide +kernel) ?_
  rw [ia1]
  refine va_sld hx hb hX hbl hbA hS (vp_in_nI (n := i + 1) (by omega) (by omega)) (by decide +kernel) ?_
  rw [nI_clamp (show i + 1 < 2 ^ 31 by omega)]
  refine lv_aload_n hx hb (k := 0) (i := 0) (x := b) (by decide +kernel) rfl (lv_at hl 0 rfl) ?_
  refine lv_iload hx hb (i := 5) (x := nI i) (by decide +kernel) (lv_at hl 5 rfl) ?_
  refine lv_iconst hx hb (n := 2) (v := 2) (by decide +kernel) rfl ?_
  refine lv_iadd hx hb (x := nI i) (y := 2) (by decide +kernel) ?_
  rw [ia2]
  refine va_sld hx hb hX hbl hbA hS (vp_in_nI (n := i + 2) (by omega) (by omega)) (by decide +kernel) ?_
  rw [nI_clamp (show i + 2 < 2 ^ 31 by omega)]
  refine lv_aload_n hx hb (k := 0) (i := 0) (x := b) (by decide +kernel) rfl (lv_at hl 0 rfl) ?_
  refine lv_iload hx hb (i := 5) (x := nI i) (by decide +kernel) (lv_at hl 5 rfl) ?_
  refine lv_iconst hx hb (n := 3) (v := 3) (by decide +kernel) rfl ?_
  refine lv_iadd hx hb (x := nI i) (y := 3) (by decide +kernel) ?_
  rw [ia3]
  refine va_sld hx hb hX hbl hbA hS (vp_in_nI (n := i + 3) (by omega) (by omega)) (by decide +kernel) ?_
  rw [nI_clamp (show i + 3 < 2 ^ 31 by omega)]
  refine lbool hx hb (off0 := 7) (t := 1066) (off1 := 4) (y := 1067) (by decide +kernel) (by decide) (by decide +kernel) (by decide +kernel) (by decide) (by decide +kernel) rfl ?_
  refine lv_aload_n hx hb (k := 0) (i := 0) (x := b) (by decide +kernel) rfl (lv_at hl 0 rfl) ?_
  refine lv_iload hx hb (i := 5) (x := nI i) (by decide +kernel) (lv_at hl 5 rfl) ?_
  refine lv_iconst hx hb (n := 4) (v := 4) (by decide +kernel) rfl ?_
  refine lv_iadd hx hb (x := nI i) (y := 4) (by decide +kernel) ?_
  rw [ia4]
  refine va_sld hx hb hX hbl hbA hS (vp_in_nI (n := i + 4) (by omega) (by omega)) (by decide +kernel) ?_
  rw [nI_clamp (show i + 4 < 2 ^ 31 by omega)]
  refine lbool hx hb (off0 := 7) (t := 1080) (off1 := 4) (y := 1081) (by decide +kernel) (by decide) (by decide +kernel) (by decide +kernel) (by decide) (by decide +kernel) rfl ?_
  refine lv_aload_n hx hb (k := 3) (i := 3) (x := qo) (by decide +kernel) rfl (lv_at hl 3 rfl) ?_
  refine lm_call (own := RL) (x := 180) (n := 6) (rest := []) (w_why (a1 := xs (i + 1)) (a2 := xs (i + 2)) (a3 := zB (xs (i + 3))) (a4 := zB (xs (i + 4))) (fo := fo) (qo := qo) (X := [(qd, .inl (cA 3, 1, .inr (.inr (.inr (.inl fd)))))]) hl0 hr hE) hx hts hb hown hP hD hK hWX hA hN hS (hl.1.trans hml.symm) (lz 76 rfl) (lz 77 rfl) (lz 78 rfl) (lz 3 rfl) ⟨by decide, by decide, by decide +kernel⟩ rfl ⟨by decide, by decide, hc, hs⟩ (by decide) (by decide +kernel) rfl (fun k W' hG H locs hP hD hS => ?_)
  obtain ⟨fo', rfl, hk, hv⟩ := hu _ _ _ _ _ hG
  refine lv_istore hx hb (i := 6) (lv' := [(6, .int k), (0, .ref b), (1, .ref (ad 0)), (2, .ref (ad 21)), (3, .ref qo), (4, .ref qd), (5, .int (nI i))]) (by decide +kernel) hl (by decide) rfl (fun ls hl => ?_)
  refine lv_aload_n hx hb (k := 2) (i := 2) (x := ad 21) (by decide +kernel) rfl (lv_at hl 3 rfl) ?_
  refine lv_aload_n hx hb (k := 0) (i := 0) (x := b) (by decide +kernel) rfl (lv_at hl 1 rfl) ?_
  refine lv_iload hx hb (i := 5) (x := nI i) (by decide +kernel) (lv_at hl 6 rfl) ?_
  refine lv_iconst hx hb (n := 1) (v := 1) (by decide +kernel) rfl ?_
  refine lv_iadd hx hb (x := nI i) (y := 1) (by decide +kernel) ?_
  rw [ia1]
  refine va_sld hx hb hX hbl hbA hS (vp_in_nI (n := i + 1) (by omega) (by omega)) (by decide +kernel) ?_
  rw [nI_clamp (show i + 1 < 2 ^ 31 by omega)]
  refine lv_aload_n hx hb (k := 0) (i := 0) (x := b) (by decide +kernel) rfl (lv_at hl 1 rfl) ?_
  refine lv_iload hx hb (i := 5) (x := nI i) (by decide +kernel) (lv_at hl 6 rfl) ?_
  refine lv_iconst hx hb (n := 2) (v := 2) (by decide +kernel) rfl ?_
  refine lv_iadd hx hb (x := nI i) (y := 2) (by decide +kernel) ?_
  rw [ia2]
  refine va_sld hx hb hX hbl hbA hS (vp_in_nI (n := i + 2) (by omega) (by omega)) (by decide +kernel) ?_
  rw [nI_clamp (show i + 2 < 2 ^ 31 by omega)]
  refine lv_aload_n hx hb (k := 0) (i := 0) (x := b) (by decide +kernel) rfl (lv_at hl 1 rfl) ?_
  refine lv_iload hx hb (i := 5) (x := nI i) (by decide +kernel) (lv_at hl 6 rfl) ?_
  refine lv_iconst hx hb (n := 3) (v := 3) (by decide +kernel) rfl ?_
  refine lv_iadd hx hb (x := nI i) (y := 3) (by decide +kernel) ?_
  rw [ia3]
  refine va_sld hx hb hX hbl hbA hS (vp_in_nI (n := i + 3) (by omega) (by omega)) (by decide +kernel) ?_
  rw [nI_clamp (show i + 3 < 2 ^ 31 by omega)]
  refine lbool hx hb (off0 := 7) (t := 1113) (off1 := 4) (y := 1114) (by decide +kernel) (by decide) (by decide +kernel) (by decide +kernel) (by decide) (by decide +kernel) rfl ?_
  refine lv_aload_n hx hb (k := 0) (i := 0) (x := b) (by decide +kernel) rfl (lv_at hl 1 rfl) ?_
  refine lv_iload hx hb (i := 5) (x := nI i) (by decide +kernel) (lv_at hl 6 rfl) ?_
  refine lv_iconst hx hb (n := 4) (v := 4) (by decide +kernel) rfl ?_
  refine lv_iadd hx hb (x := nI i) (y := 4) (by decide +kernel) ?_
  rw [ia4]
  refine va_sld hx hb hX hbl hbA hS (vp_in_nI (n := i + 4) (by omega) (by omega)) (by decide +kernel) ?_
  rw [nI_clamp (show i + 4 < 2 ^ 31 by omega)]
  refine lbool hx hb (off0 := 7) (t := 1127) (off1 := 4) (y := 1128) (by decide +kernel) (by decide) (by decide +kernel) (by decide +kernel) (by decide) (by decide +kernel) rfl ?_
  refine lcall (d := 12) (j := m8_why) (a := 21) (as := [.inr (xs (i + 1)), .inr (xs (i + 2)), .inr (zB (xs (i + 3))), .inr (zB (xs (i + 4)))]) (X := [(qo, .inl (cA 2, 1, .inr (.inl fo'))), (qd, .inl (cA 3, 1, .inr (.inr (.inr (.inl fd)))))]) (own := RL) (x := 183) (rest := []) hl0 hm (by decide) rfl rfl hx hts hb hown hP hD hK hWX hA hS (hl.1.trans hml.symm) (lz 79 rfl) (lz 80 rfl) (lz 81 rfl) ⟨by decide, by decide, r0 rfl hc, r6 rfl hs⟩ (by decide) (by decide +kernel) rfl (fun E τ e => by cases e) (fun v τ e H locs hP hS => ?_)
  cases e
  have hD := wOX_D (τ := sz τ2) hD
  refine W.widen (k := cells + 2) (n := slots + 12) (w0 rfl) (w6 rfl) ?_
  refine W.eq (g2 := F0 m 1131 ls [.int b']) rfl ?_
  refine lv_istore hx hb (i := 7) (lv' := [(7, .int b'), (6, .int k), (0, .ref b), (1, .ref (ad 0)), (2, .ref (ad 21)), (3, .ref qo), (4, .ref qd), (5, .int (nI i))]) (by decide +kernel) hl (by decide) rfl (fun ls hl => ?_)
  refine lv_aload_n hx hb (k := 2) (i := 2) (x := ad 21) (by decide +kernel) rfl (lv_at hl 4 rfl) ?_
  refine lcall (d := 12) (j := m8_thrown) (a := 21) (as := []) (X := [(qo, .inl (cA 2, 1, .inr (.inl fo'))), (qd, .inl (cA 3, 1, .inr (.inr (.inr (.inl fd)))))]) (own := RL) (x := 140) (rest := []) hl0 ht (by decide) rfl rfl hx hts hb hown hP hD hK hWX hA hS (hl.1.trans hml.symm) (lz 7 rfl) (lz 8 rfl) (lz 9 rfl) ⟨by decide, by decide, r0 rfl hc, r6 rfl hs⟩ (by decide) (by decide +kernel) rfl (fun E τ e => by cases e) (fun v τ e H locs hP hS => ?_)
  cases e
  have hD := wOX_D (τ := sz τ2) hD
  refine W.widen (k := cells + 2) (n := slots + 12) (w0 rfl) (w6 rfl) ?_
  refine W.eq (g2 := F0 m 1137 ls [.int (iI (τ2 21 7))]) rfl ?_
  refine lv_iload hx hb (i := 6) (x := k) (by decide +kernel) (lv_at hl 1 rfl) ?_
  refine lv_icmp_eq hx hb (off := 5) (tgt := 1144) (by decide +kernel) (by decide) (fun _ => ?_) (fun h => absurd hk h)
  refine lv_iload hx hb (i := 6) (x := k) (by decide +kernel) (lv_at hl 1 rfl) ?_
  have fin : ∀ pc9 : Nat, pc9 = 1161 → W p l e room_1 s m args below meth c H locs (cells + 2) (slots + 12) Q (F0 m pc9 ls []) := by
    rintro _ rfl
    refine lv_goto hx hb (off := 1330) (tgt := 2491) (by decide +kernel) (by decide) ?_
    exact kk τ2 fo' _ _ _ hW2 hP hD hS (lv_sub hl [2, 3, 4, 5, 6, 7] rfl)
  refine lv_if_ne hx hb (off := 15) (tgt := 1161) (by decide +kernel) (by decide) (fun _ => fin _ rfl) (fun hk0 => ?_)
  refine lv_aload_n hx hb (k := 3) (i := 3) (x := qo) (by decide +kernel) rfl (lv_at hl 5 rfl) ?_
  refine lv_iconst hx hb (n := 0) (v := 0) (by decide +kernel) rfl ?_
  refine va_lald hx hb hK hP (31 + 0) 2 (wOX_get (j := 0) rfl) rfl vp01 (by decide +kernel) ?_
  refine lv_iload hx hb (i := 7) (x := b') (by decide +kernel) (lv_at hl 0 rfl) ?_
  refine lv_i2l hx hb (by decide +kernel) rfl ?_
  refine W.lcmp hx hb (by decide +kernel) ?_
  refine lv_if_eq hx hb (off := 5) (tgt := 1161) (by decide +kernel) (by decide) (fun _ => fin _ rfl) (fun h => absurd (gcmp (hv hk0)) h)
theorem cs_to (F : LF D A ad adV cA p l s m args c b L xs) {B : Int} {τ : SZ} (hW : WL B τ) (hB : B + 400 ≤ 100000000) {i : Nat} (hi : i + 5 ≤ L) (hL : L ≤ 2560) {qo qd : Nat} {fo : Nat → Int64} {fd : Nat → UInt64} (hP : va_P D cls9 (LV ad cA qo qd (sz τ) fo fd) H) (hD : va_D A (LV ad cA qo qd (sz τ) fo fd)) (hS : va_S A s.heap H locs) (hc : cells + 2 ≤ room_1.cells) (hs : slots + 12 ≤ room_1.slots) {ls : Array Slot} (hl : lv_has ls 9 [(0, .ref b), (1, .ref (ad 0)), (2, .ref (ad 21)), (3, .ref qo), (4, .ref qd), (5, .int (nI i))])
    (kk : ∀ (τ' : SZ) (fo' : Nat → Int64) (H' : Heap) (locs' : List Loc) (ls' : Array Slot), WL (B + 200) τ' → va_P D cls9 (LV ad cA qo qd (sz τ') fo' fd) H' → va_D A (LV ad cA qo qd (sz τ') fo' fd) → va_S A s.heap H' locs' → lv_has ls' 9 [(0, .ref b), (1, .ref (ad 0)), (2, .ref (ad 21)), (3, .ref qo), (4, .ref qd), (5, .int (nI i))] → W p l e room_1 s m args below meth c H' locs' (cells + 2) (slots + 12) Q (F0 m 2491 ls' [])) : W p l e room_1 s m args below meth c H locs cells slots Q (F0 m 1164 ls []) := by
  obtain ⟨hx, hb, hml, hown, hts, hK, hWX, hA, hN, hX, hbl, hbA, hl0⟩ := F
  obtain ⟨r, b', τ1, τ2, hr, hE, hm, ht, hW2, hu, hq⟩ := cal_rr (ad := ad) (cA := cA) (as' := [.inr (xs (i + 1)), .inr (xs (i + 2)), .inr (zB (xs (i + 3)))]) (kc_to hW hB (xs (i + 1)) (xs (i + 2)) (xs (i + 3))) (by simp only [List.map_cons, List.map_nil, vT1]) (by decide) (by decide)
  refine lv_aload_n hx hb (k := 1) (i := 1) (x := ad 0) (by decide +kernel) rfl (lv_at hl 1 rfl) ?_
  refine lv_aload_n hx hb (k := 0) (i := 0) (x := b) (by decide +kernel) rfl (lv_at hl 0 rfl) ?_
  refine lv_iload hx hb (i := 5) (x := nI i) (by decide +kernel) (lv_at hl 5 rfl) ?_
  refine lv_iconst hx hb (n := 1) (v := 1) (by decide +kernel) rfl ?_
  refine lv_iadd hx hb (x := nI i) (y := 1) (by decide +kernel) ?_
  rw [ia1]
  refine va_sld hx hb hX hbl hbA hS (vp_in_nI (n := i + 1) (by omega) (by omega)) (by decide +kernel) ?_
  rw [nI_clamp (show i + 1 < 2 ^ 31 by omega)]
  refine lv_aload_n hx hb (k := 0) (i := 0) (x := b) (by decide +kernel) rfl (lv_at hl 0 rfl) ?_
  refine lv_iload hx hb (i := 5) (x := nI i) (by decide +kernel) (lv_at hl 5 rfl) ?_
  refine lv_iconst hx hb (n := 2) (v := 2) (by decide +kernel) rfl ?_
  refine lv_iadd hx hb (x := nI i) (y := 2) (by decide +kernel) ?_
  rw [ia2]
  refine va_sld hx hb hX hbl hbA hS (vp_in_nI (n := i + 2) (by omega) (by omega)) (by decide +kernel) ?_
  rw [nI_clamp (show i + 2 < 2 ^ 31 by omega)]
  refine lv_aload_n hx hb (k := 0) (i := 0) (x := b) (by decide +kernel) rfl (lv_at hl 0 rfl) ?_
  refine lv_iload hx hb (i := 5) (x := nI i) (by decide +kernel) (lv_at hl 5 rfl) ?_
  refine lv_iconst hx hb (n := 3) (v := 3) (by decide +kernel) rfl ?_
  refine lv_iadd hx hb (x := nI i) (y := 3) (by decide +kernel) ?_
  rw [ia3]
  refine va_sld hx hb hX hbl hbA hS (vp_in_nI (n := i + 3) (by omega) (by omega)) (by decide +kernel) ?_
  rw [nI_clamp (show i + 3 < 2 ^ 31 by omega)]
  refine lbool hx hb (off0 := 7) (t := 1190) (off1 := 4) (y := 1191) (by decide +kernel) (by decide) (by decide +kernel) (by decide +kernel) (by decide) (by decide +kernel) rfl ?_
  refine lv_aload_n hx hb (k := 3) (i := 3) (x := qo) (by decide +kernel) rfl (lv_at hl 3 rfl) ?_
  refine lm_call (own := RL) (x := 184) (n := 5) (rest := []) (w_to (a1 := xs (i + 1)) (a2 := xs (i + 2)) (a3 := zB (xs (i + 3))) (fo := fo) (qo := qo) (X := [(qd, .inl (cA 3, 1, .inr (.inr (.inr (.inl fd)))))]) hl0 hr hE) hx hts hb hown hP hD hK hWX hA hN hS (hl.1.trans hml.symm) (lz 82 rfl) (lz 83 rfl) (lz 84 rfl) (lz 3 rfl) ⟨by decide, by decide, by decide +kernel⟩ rfl ⟨by decide, by decide, hc, hs⟩ (by decide) (by decide +kernel) rfl (fun k W' hG H locs hP hD hS => ?_)
  obtain ⟨fo', rfl, hk, hv⟩ := hu _ _ _ _ _ hG
  refine lv_istore hx hb (i := 6) (lv' := [(6, .int k), (0, .ref b), (1, .ref (ad 0)), (2, .ref (ad 21)), (3, .ref qo), (4, .ref qd), (5, .int (nI i))]) (by decide +kernel) hl (by decide) rfl (fun ls hl => ?_)
  refine lv_aload_n hx hb (k := 2) (i := 2) (x := ad 21) (by decide +kernel) rfl (lv_at hl 3 rfl) ?_
  refine lv_aload_n hx hb (k := 0) (i := 0) (x := b) (by decide +kernel) rfl (lv_at hl 1 rfl) ?_
  refine lv_iload hx hb (i := 5) (x := nI i) (by decide +kernel) (lv_at hl 6 rfl) ?_
  refine lv_iconst hx hb (n := 1) (v := 1) (by decide +kernel) rfl ?_
  refine lv_iadd hx hb (x := nI i) (y := 1) (by decide +kernel) ?_
  rw [ia1]
  refine va_sld hx hb hX hbl hbA hS (vp_in_nI (n := i + 1) (by omega) (by omega)) (by decide +kernel) ?_
  rw [nI_clamp (show i + 1 < 2 ^ 31 by omega)]
  refine lv_aload_n hx hb (k := 0) (i := 0) (x := b) (by decide +kernel) rfl (lv_at hl 1 rfl) ?_
  refine lv_iload hx hb (i := 5) (x := nI i) (by decide +kernel) (lv_at hl 6 rfl) ?_
  refine lv_iconst hx hb (n := 2) (v := 2) (by decide +kernel) rfl ?_
  refine lv_iadd hx hb (x := nI i) (y := 2) (by decide +kernel) ?_
  rw [ia2]
  refine va_sld hx hb hX hbl hbA hS (vp_in_nI (n := i + 2) (by omega) (by omega)) (by decide +kernel) ?_
  rw [nI_clamp (show i + 2 < 2 ^ 31 by omega)]
  refine lv_aload_n hx hb (k := 0) (i := 0) (x := b) (by decide +kernel) rfl (lv_at hl 1 rfl) ?_
  refine lv_iload hx hb (i := 5) (x := nI i) (by decide +kernel) (lv_at hl 6 rfl) ?_
  refine lv_iconst hx hb (n := 3) (v := 3) (by decide +kernel) rfl ?_
  refine lv_iadd hx hb (x := nI i) (y := 3) (by decide +kernel) ?_
  rw [ia3]
  refine va_sld hx hb hX hbl hbA hS (vp_in_nI (n := i + 3) (by omega) (by omega)) (by decide +kernel) ?_
  rw [nI_clamp (show i + 3 < 2 ^ 31 by omega)]
  refine lbool hx hb (off0 := 7) (t := 1223) (off1 := 4) (y := 1224) (by decide +kernel) (by decide) (by decide +kernel) (by decide +kernel) (by decide) (by decide +kernel) rfl ?_
  refine lcall (d := 12) (j := m8_to) (a := 21) (as := [.inr (xs (i + 1)), .inr (xs (i + 2)), .inr (zB (xs (i + 3)))]) (X := [(qo, .inl (cA 2, 1, .inr (.inl fo'))), (qd, .inl (cA 3, 1, .inr (.inr (.inr (.inl fd)))))]) (own := RL) (x := 186) (rest := []) hl0 hm (by decide) rfl rfl hx hts hb hown hP hD hK hWX hA hS (hl.1.trans hml.symm) (lz 85 rfl) (lz 86 rfl) (lz 87 rfl) ⟨by decide, by decide, r0 rfl hc, r6 rfl hs⟩ (by decide) (by decide +kernel) rfl (fun E τ e => by cases e) (fun v τ e H locs hP hS => ?_)
  cases e
  have hD := wOX_D (τ := sz τ2) hD
  refine W.widen (k := cells + 2) (n := slots + 12) (w0 rfl) (w6 rfl) ?_
  refine W.eq (g2 := F0 m 1227 ls [.int b']) rfl ?_
  refine lv_istore hx hb (i := 7) (lv' := [(7, .int b'), (6, .int k), (0, .ref b), (1, .ref (ad 0)), (2, .ref (ad 21)), (3, .ref qo), (4, .ref qd), (5, .int (nI i))]) (by decide +kernel) hl (by decide) rfl (fun ls hl => ?_)
  refine lv_aload_n hx hb (k := 2) (i := 2) (x := ad 21) (by decide +kernel) rfl (lv_at hl 4 rfl) ?_
  refine lcall (d := 12) (j := m8_thrown) (a := 21) (as := []) (X := [(qo, .inl (cA 2, 1, .inr (.inl fo'))), (qd, .inl (cA 3, 1, .inr (.inr (.inr (.inl fd)))))]) (own := RL) (x := 140) (rest := []) hl0 ht (by decide) rfl rfl hx hts hb hown hP hD hK hWX hA hS (hl.1.trans hml.symm) (lz 7 rfl) (lz 8 rfl) (lz 9 rfl) ⟨by decide, by decide, r0 rfl hc, r6 rfl hs⟩ (by decide) (by decide +kernel) rfl (fun E τ e => by cases e) (fun v τ e H locs hP hS => ?_)
  cases e
  have hD := wOX_D (τ := sz τ2) hD
  refine W.widen (k := cells + 2) (n := slots + 12) (w0 rfl) (w6 rfl) ?_
  refine W.eq (g2 := F0 m 1233 ls [.int (iI (τ2 21 7))]) rfl ?_
  refine lv_iload hx hb (i := 6) (x := k) (by decide +kernel) (lv_at hl 1 rfl) ?_
  refine lv_icmp_eq hx hb (off := 5) (tgt := 1240) (by decide +kernel) (by decide) (fun _ => ?_) (fun h => absurd hk h)
  refine lv_iload hx hb (i := 6) (x := k) (by decide +kernel) (lv_at hl 1 rfl) ?_
  have fin : ∀ pc9 : Nat, pc9 = 1257 → W p l e room_1 s m args below meth c H locs (cells + 2) (slots + 12) Q (F0 m pc9 ls []) := by
    rintro _ rfl
    refine lv_goto hx hb (off := 1234) (tgt := 2491) (by decide +kernel) (by decide) ?_
    exact kk τ2 fo' _ _ _ hW2 hP hD hS (lv_sub hl [2, 3, 4, 5, 6, 7] rfl)
  refine lv_if_ne hx hb (off := 15) (tgt := 1257) (by decide +kernel) (by decide) (fun _ => fin _ rfl) (fun hk0 => ?_)
  refine lv_aload_n hx hb (k := 3) (i := 3) (x := qo) (by decide +kernel) rfl (lv_at hl 5 rfl) ?_
  refine lv_iconst hx hb (n := 0) (v := 0) (by decide +kernel) rfl ?_
  refine va_lald hx hb hK hP (31 + 0) 2 (wOX_get (j := 0) rfl) rfl vp01 (by decide +kernel) ?_
  refine lv_iload hx hb (i := 7) (x := b') (by decide +kernel) (lv_at hl 0 rfl) ?_
  refine lv_i2l hx hb (by decide +kernel) rfl ?_
  refine W.lcmp hx hb (by decide +kernel) ?_
  refine lv_if_eq hx hb (off := 5) (tgt := 1257) (by decide +kernel) (by decide) (fun _ => fin _ rfl) (fun h => absurd (gcmp (hv hk0)) h)
theorem cs_moves (F : LF D A ad adV cA p l s m args c b L xs) {B : Int} {τ : SZ} (hW : WL B τ) (hB : B + 400 ≤ 100000000) {i : Nat} (hi : i + 5 ≤ L) (hL : L ≤ 2560) {qo qd : Nat} {fo : Nat → Int64} {fd : Nat → UInt64} (hP : va_P D cls9 (LV ad cA qo qd (sz τ) fo fd) H) (hD : va_D A (LV ad cA qo qd (sz τ) fo fd)) (hS : va_S A s.heap H locs) (hc : cells + 2 ≤ room_1.cells) (hs : slots + 12 ≤ room_1.slots) {ls : Array Slot} (hl : lv_has ls 9 [(0, .ref b), (1, .ref (ad 0)), (2, .ref (ad 21)), (3, .ref qo), (4, .ref qd), (5, .int (nI i))])
    (kk : ∀ (τ' : SZ) (fo' : Nat → Int64) (H' : Heap) (locs' : List Loc) (ls' : Array Slot), WL (B + 200) τ' → va_P D cls9 (LV ad cA qo qd (sz τ') fo' fd) H' → va_D A (LV ad cA qo qd (sz τ') fo' fd) → va_S A s.heap H' locs' → lv_has ls' 9 [(0, .ref b), (1, .ref (ad 0)), (2, .ref (ad 21)), (3, .ref qo), (4, .ref qd), (5, .int (nI i))] → W p l e room_1 s m args below meth c H' locs' (cells + 2) (slots + 12) Q (F0 m 2491 ls' [])) : W p l e room_1 s m args below meth c H locs cells slots Q (F0 m 1260 ls []) := by
  obtain ⟨hx, hb, hml, hown, hts, hK, hWX, hA, hN, hX, hbl, hbA, hl0⟩ := F
  obtain ⟨r, b', τ1, τ2, hr, hE, hm, ht, hW2, hu, hq⟩ := cal_rr (ad := ad) (cA := cA) (as' := [.inr (xs (i + 1)), .inr (zB (xs (i + 2)))]) (kc_moves hW hB (xs (i + 1)) (xs (i + 2))) (by simp only [List.map_cons, List.map_nil, vT1]) (by decide) (by decide)
  refine lv_aload_n hx hb (k := 1) (i := 1) (x := ad 0) (by decide +kernel) rfl (lv_at hl 1 rfl) ?_
  refine lv_aload_n hx hb (k := 0) (i := 0) (x := b) (by decide +kernel) rfl (lv_at hl 0 rfl) ?_
  refine lv_iload hx hb (i := 5) (x := nI i) (by decide +kernel) (lv_at hl 5 rfl) ?_
  refine lv_iconst hx hb (n := 1) (v := 1) (by decide +kernel) rfl ?_
  refine lv_iadd hx hb (x := nI i) (y := 1) (by decide +kernel) ?_
  rw [ia1]
  refine va_sld hx hb hX hbl hbA hS (vp_in_nI (n := i + 1) (by omega) (by omega)) (by decide +kernel) ?_
  rw [nI_clamp (show i + 1 < 2 ^ 31 by omega)]
  refine lv_aload_n hx hb (k := 0) (i := 0) (x := b) (by decide +kernel) rfl (lv_at hl 0 rfl) ?_
  refine lv_iload hx hb (i := 5) (x := nI i) (by decide +kernel) (lv_at hl 5 rfl) ?_
  refine lv_iconst hx hb (n := 2) (v := 2) (by decide +kernel) rfl ?_
  refine lv_iadd hx hb (x := nI i) (y := 2) (by decide +kernel) ?_
  rw [ia2]
  refine va_sld hx hb hX hbl hbA hS (vp_in_nI (n := i + 2) (by omega) (by omega)) (by decide +kernel) ?_
  rw [nI_clamp (show i + 2 < 2 ^ 31 by omega)]
  refine lbool hx hb (off0 := 7) (t := 1280) (off1 := 4) (y := 1281) (by decide +kernel) (by decide) (by decide +kernel) (by decide +kernel) (by decide) (by decide +kernel) rfl ?_
  refine lv_aload_n hx hb (k := 3) (i := 3) (x := qo) (by decide +kernel) rfl (lv_at hl 3 rfl) ?_
  refine lm_call (own := RL) (x := 187) (n := 4) (rest := []) (w_moves (a1 := xs (i + 1)) (a2 := zB (xs (i + 2))) (fo := fo) (qo := qo) (X := [(qd, .inl (cA 3, 1, .inr (.inr (.inr (.inl fd)))))]) hl0 hr hE) hx hts hb hown hP hD hK hWX hA hN hS (hl.1.trans hml.symm) (lz 88 rfl) (lz 89 rfl) (lz 90 rfl) (lz 3 rfl) ⟨by decide, by decide, by decide +kernel⟩ rfl ⟨by decide, by decide, hc, hs⟩ (by decide) (by decide +kernel) rfl (fun k W' hG H locs hP hD hS => ?_)
  obtain ⟨fo', rfl, hk, hv⟩ := hu _ _ _ _ _ hG
  refine lv_istore hx hb (i := 6) (lv' := [(6, .int k), (0, .ref b), (1, .ref (ad 0)), (2, .ref (ad 21)), (3, .ref qo), (4, .ref qd), (5, .int (nI i))]) (by decide +kernel) hl (by decide) rfl (fun ls hl => ?_)
  refine lv_aload_n hx hb (k := 2) (i := 2) (x := ad 21) (by decide +kernel) rfl (lv_at hl 3 rfl) ?_
  refine lv_aload_n hx hb (k := 0) (i := 0) (x := b) (by decide +kernel) rfl (lv_at hl 1 rfl) ?_
  refine lv_iload hx hb (i := 5) (x := nI i) (by decide +kernel) (lv_at hl 6 rfl) ?_
  refine lv_iconst hx hb (n := 1) (v := 1) (by decide +kernel) rfl ?_
  refine lv_iadd hx hb (x := nI i) (y := 1) (by decide +kernel) ?_
  rw [ia1]
  refine va_sld hx hb hX hbl hbA hS (vp_in_nI (n := i + 1) (by omega) (by omega)) (by decide +kernel) ?_
  rw [nI_clamp (show i + 1 < 2 ^ 31 by omega)]
  refine lv_aload_n hx hb (k := 0) (i := 0) (x := b) (by decide +kernel) rfl (lv_at hl 1 rfl) ?_
  refine lv_iload hx hb (i := 5) (x := nI i) (by decide +kernel) (lv_at hl 6 rfl) ?_
  refine lv_iconst hx hb (n := 2) (v := 2) (by decide +kernel) rfl ?_
  refine lv_iadd hx hb (x := nI i) (y := 2) (by decide +kernel) ?_
  rw [ia2]
  refine va_sld hx hb hX hbl hbA hS (vp_in_nI (n := i + 2) (by omega) (by omega)) (by decide +kernel) ?_
  rw [nI_clamp (show i + 2 < 2 ^ 31 by omega)]
  refine lbool hx hb (off0 := 7) (t := 1307) (off1 := 4) (y := 1308) (by decide +kernel) (by decide) (by decide +kernel) (by decide +kernel) (by decide) (by decide +kernel) rfl ?_
  refine lcall (d := 12) (j := m8_moves) (a := 21) (as := [.inr (xs (i + 1)), .inr (zB (xs (i + 2)))]) (X := [(qo, .inl (cA 2, 1, .inr (.inl fo'))), (qd, .inl (cA 3, 1, .inr (.inr (.inr (.inl fd)))))]) (own := RL) (x := 190) (rest := []) hl0 hm (by decide) rfl rfl hx hts hb hown hP hD hK hWX hA hS (hl.1.trans hml.symm) (lz 91 rfl) (lz 92 rfl) (lz 93 rfl) ⟨by decide, by decide, r0 rfl hc, r6 rfl hs⟩ (by decide) (by decide +kernel) rfl (fun E τ e => by cases e) (fun v τ e H locs hP hS => ?_)
  cases e
  have hD := wOX_D (τ := sz τ2) hD
  refine W.widen (k := cells + 2) (n := slots + 12) (w0 rfl) (w6 rfl) ?_
  refine W.eq (g2 := F0 m 1311 ls [.int b']) rfl ?_
  refine lv_istore hx hb (i := 7) (lv' := [(7, .int b'), (6, .int k), (0, .ref b), (1, .ref (ad 0)), (2, .ref (ad 21)), (3, .ref qo), (4, .ref qd), (5, .int (nI i))]) (by decide +kernel) hl (by decide) rfl (fun ls hl => ?_)
  refine lv_aload_n hx hb (k := 2) (i := 2) (x := ad 21) (by decide +kernel) rfl (lv_at hl 4 rfl) ?_
  refine lcall (d := 12) (j := m8_thrown) (a := 21) (as := []) (X := [(qo, .inl (cA 2, 1, .inr (.inl fo'))), (qd, .inl (cA 3, 1, .inr (.inr (.inr (.inl fd)))))]) (own := RL) (x := 140) (rest := []) hl0 ht (by decide) rfl rfl hx hts hb hown hP hD hK hWX hA hS (hl.1.trans hml.symm) (lz 7 rfl) (lz 8 rfl) (lz 9 rfl) ⟨by decide, by decide, r0 rfl hc, r6 rfl hs⟩ (by decide) (by decide +kernel) rfl (fun E τ e => by cases e) (fun v τ e H locs hP hS => ?_)
  cases e
  have hD := wOX_D (τ := sz τ2) hD
  refine W.widen (k := cells + 2) (n := slots + 12) (w0 rfl) (w6 rfl) ?_
  refine W.eq (g2 := F0 m 1317 ls [.int (iI (τ2 21 7))]) rfl ?_
  refine lv_iload hx hb (i := 6) (x := k) (by decide +kernel) (lv_at hl 1 rfl) ?_
  refine lv_icmp_eq hx hb (off := 5) (tgt := 1324) (by decide +kernel) (by decide) (fun _ => ?_) (fun h => absurd hk h)
  refine lv_iload hx hb (i := 6) (x := k) (by decide +kernel) (lv_at hl 1 rfl) ?_
  have fin : ∀ pc9 : Nat, pc9 = 1341 → W p l e room_1 s m args below meth c H locs (cells + 2) (slots + 12) Q (F0 m pc9 ls []) := by
    rintro _ rfl
    refine lv_goto hx hb (off := 1150) (tgt := 2491) (by decide +kernel) (by decide) ?_
    exact kk τ2 fo' _ _ _ hW2 hP hD hS (lv_sub hl [2, 3, 4, 5, 6, 7] rfl)
  refine lv_if_ne hx hb (off := 15) (tgt := 1341) (by decide +kernel) (by decide) (fun _ => fin _ rfl) (fun hk0 => ?_)
  refine lv_aload_n hx hb (k := 3) (i := 3) (x := qo) (by decide +kernel) rfl (lv_at hl 5 rfl) ?_
  refine lv_iconst hx hb (n := 0) (v := 0) (by decide +kernel) rfl ?_
  refine va_lald hx hb hK hP (31 + 0) 2 (wOX_get (j := 0) rfl) rfl vp01 (by decide +kernel) ?_
  refine lv_iload hx hb (i := 7) (x := b') (by decide +kernel) (lv_at hl 0 rfl) ?_
  refine lv_i2l hx hb (by decide +kernel) rfl ?_
  refine W.lcmp hx hb (by decide +kernel) ?_
  refine lv_if_eq hx hb (off := 5) (tgt := 1341) (by decide +kernel) (by decide) (fun _ => fin _ rfl) (fun h => absurd (gcmp (hv hk0)) h)
theorem cs_captures (F : LF D A ad adV cA p l s m args c b L xs) {B : Int} {τ : SZ} (hW : WL B τ) (hB : B + 400 ≤ 100000000) {i : Nat} (hi : i + 5 ≤ L) (hL : L ≤ 2560) {qo qd : Nat} {fo : Nat → Int64} {fd : Nat → UInt64} (hP : va_P D cls9 (LV ad cA qo qd (sz τ) fo fd) H) (hD : va_D A (LV ad cA qo qd (sz τ) fo fd)) (hS : va_S A s.heap H locs) (hc : cells + 2 ≤ room_1.cells) (hs : slots + 12 ≤ room_1.slots) {ls : Array Slot} (hl : lv_has ls 9 [(0, .ref b), (1, .ref (ad 0)), (2, .ref (ad 21)), (3, .ref qo), (4, .ref qd), (5, .int (nI i))])
    (kk : ∀ (τ' : SZ) (fo' : Nat → Int64) (H' : Heap) (locs' : List Loc) (ls' : Array Slot), WL (B + 200) τ' → va_P D cls9 (LV ad cA qo qd (sz τ') fo' fd) H' → va_D A (LV ad cA qo qd (sz τ') fo' fd) → va_S A s.heap H' locs' → lv_has ls' 9 [(0, .ref b), (1, .ref (ad 0)), (2, .ref (ad 21)), (3, .ref qo), (4, .ref qd), (5, .int (nI i))] → W p l e room_1 s m args below meth c H' locs' (cells + 2) (slots + 12) Q (F0 m 2491 ls' [])) : W p l e room_1 s m args below meth c H locs cells slots Q (F0 m 1344 ls []) := by
  obtain ⟨hx, hb, hml, hown, hts, hK, hWX, hA, hN, hX, hbl, hbA, hl0⟩ := F
  obtain ⟨r, b', τ1, τ2, hr, hE, hm, ht, hW2, hu, hq⟩ := cal_rr (ad := ad) (cA := cA) (as' := [.inr (xs (i + 1)), .inr (zB (xs (i + 2)))]) (kc_captures hW hB (xs (i + 1)) (xs (i + 2))) (by simp only [List.map_cons, List.map_nil, vT1]) (by decide) (by decide)
  refine lv_aload_n hx hb (k := 1) (i := 1) (x := ad 0) (by decide +kernel) rfl (lv_at hl 1 rfl) ?_
  refine lv_aload_n hx hb (k := 0) (i := 0) (x := b) (by decide +kernel) rfl (lv_at hl 0 rfl) ?_
  refine lv_iload hx hb (i := 5) (x := nI i) (by decide +kernel) (lv_at hl 5 rfl) ?_
  refine lv_iconst hx hb (n := 1) (v := 1) (by decide +kernel) rfl ?_
  refine lv_iadd hx hb (x := nI i) (y := 1) (by decide +kernel) ?_
  rw [ia1]
  refine va_sld hx hb hX hbl hbA hS (vp_in_nI (n := i + 1) (by omega) (by omega)) (by decide +kernel) ?_
  rw [nI_clamp (show i + 1 < 2 ^ 31 by omega)]
  refine lv_aload_n hx hb (k := 0) (i := 0) (x := b) (by decide +kernel) rfl (lv_at hl 0 rfl) ?_
  refine lv_iload hx hb (i := 5) (x := nI i) (by decide +kernel) (lv_at hl 5 rfl) ?_
  refine lv_iconst hx hb (n := 2) (v := 2) (by decide +kernel) rfl ?_
  refine lv_iadd hx hb (x := nI i) (y := 2) (by decide +kernel) ?_
  rw [ia2]
  refine va_sld hx hb hX hbl hbA hS (vp_in_nI (n := i + 2) (by omega) (by omega)) (by decide +kernel) ?_
  rw [nI_clamp (show i + 2 < 2 ^ 31 by omega)]
  refine lbool hx hb (off0 := 7) (t := 1364) (off1 := 4) (y := 1365) (by decide +kernel) (by decide) (by decide +kernel) (by decide +kernel) (by decide) (by decide +kernel) rfl ?_
  refine lv_aload_n hx hb (k := 3) (i := 3) (x := qo) (by decide +kernel) rfl (lv_at hl 3 rfl) ?_
  refine lm_call (own := RL) (x := 191) (n := 4) (rest := []) (w_captures (a1 := xs (i + 1)) (a2 := zB (xs (i + 2))) (fo := fo) (qo := qo) (X := [(qd, .inl (cA 3, 1, .inr (.inr (.inr (.inl fd)))))]) hl0 hr hE) hx hts hb hown hP hD hK hWX hA hN hS (hl.1.trans hml.symm) (lz 94 rfl) (lz 95 rfl) (lz 96 rfl) (lz 3 rfl) ⟨by decide, by decide, by decide +kernel⟩ rfl ⟨by decide, by decide, hc, hs⟩ (by decide) (by decide +kernel) rfl (fun k W' hG H locs hP hD hS => ?_)
  obtain ⟨fo', rfl, hk, hv⟩ := hu _ _ _ _ _ hG
  refine lv_istore hx hb (i := 6) (lv' := [(6, .int k), (0, .ref b), (1, .ref (ad 0)), (2, .ref (ad 21)), (3, .ref qo), (4, .ref qd), (5, .int (nI i))]) (by decide +kernel) hl (by decide) rfl (fun ls hl => ?_)
  refine lv_aload_n hx hb (k := 2) (i := 2) (x := ad 21) (by decide +kernel) rfl (lv_at hl 3 rfl) ?_
  refine lv_aload_n hx hb (k := 0) (i := 0) (x := b) (by decide +kernel) rfl (lv_at hl 1 rfl) ?_
  refine lv_iload hx hb (i := 5) (x := nI i) (by decide +kernel) (lv_at hl 6 rfl) ?_
  refine lv_iconst hx hb (n := 1) (v := 1) (by decide +kernel) rfl ?_
  refine lv_iadd hx hb (x := nI i) (y := 1) (by decide +kernel) ?_
  rw [ia1]
  refine va_sld hx hb hX hbl hbA hS (vp_in_nI (n := i + 1) (by omega) (by omega)) (by decide +kernel) ?_
  rw [nI_clamp (show i + 1 < 2 ^ 31 by omega)]
  refine lv_aload_n hx hb (k := 0) (i := 0) (x := b) (by decide +kernel) rfl (lv_at hl 1 rfl) ?_
  refine lv_iload hx hb (i := 5) (x := nI i) (by decide +kernel) (lv_at hl 6 rfl) ?_
  refine lv_iconst hx hb (n := 2) (v := 2) (by decide +kernel) rfl ?_
  refine lv_iadd hx hb (x := nI i) (y := 2) (by decide +kernel) ?_
  rw [ia2]
  refine va_sld hx hb hX hbl hbA hS (vp_in_nI (n := i + 2) (by omega) (by omega)) (by decide +kernel) ?_
  rw [nI_clamp (show i + 2 < 2 ^ 31 by omega)]
  refine lbool hx hb (off0 := 7) (t := 1391) (off1 := 4) (y := 1392) (by decide +kernel) (by decide) (by decide +kernel) (by decide +kernel) (by decide) (by decide +kernel) rfl ?_
  refine lcall (d := 12) (j := m8_captures) (a := 21) (as := [.inr (xs (i + 1)), .inr (zB (xs (i + 2)))]) (X := [(qo, .inl (cA 2, 1, .inr (.inl fo'))), (qd, .inl (cA 3, 1, .inr (.inr (.inr (.inl fd)))))]) (own := RL) (x := 193) (rest := []) hl0 hm (by decide) rfl rfl hx hts hb hown hP hD hK hWX hA hS (hl.1.trans hml.symm) (lz 97 rfl) (lz 98 rfl) (lz 99 rfl) ⟨by decide, by decide, r0 rfl hc, r6 rfl hs⟩ (by decide) (by decide +kernel) rfl (fun E τ e => by cases e) (fun v τ e H locs hP hS => ?_)
  cases e
  have hD := wOX_D (τ := sz τ2) hD
  refine W.widen (k := cells + 2) (n := slots + 12) (w0 rfl) (w6 rfl) ?_
  refine W.eq (g2 := F0 m 1395 ls [.int b']) rfl ?_
  refine lv_istore hx hb (i := 7) (lv' := [(7, .int b'), (6, .int k), (0, .ref b), (1, .ref (ad 0)), (2, .ref (ad 21)), (3, .ref qo), (4, .ref qd), (5, .int (nI i))]) (by decide +kernel) hl (by decide) rfl (fun ls hl => ?_)
  refine lv_aload_n hx hb (k := 2) (i := 2) (x := ad 21) (by decide +kernel) rfl (lv_at hl 4 rfl) ?_
  refine lcall (d := 12) (j := m8_thrown) (a := 21) (as := []) (X := [(qo, .inl (cA 2, 1, .inr (.inl fo'))), (qd, .inl (cA 3, 1, .inr (.inr (.inr (.inl fd)))))]) (own := RL) (x := 140) (rest := []) hl0 ht (by decide) rfl rfl hx hts hb hown hP hD hK hWX hA hS (hl.1.trans hml.symm) (lz 7 rfl) (lz 8 rfl) (lz 9 rfl) ⟨by decide, by decide, r0 rfl hc, r6 rfl hs⟩ (by decide) (by decide +kernel) rfl (fun E τ e => by cases e) (fun v τ e H locs hP hS => ?_)
  cases e
  have hD := wOX_D (τ := sz τ2) hD
  refine W.widen (k := cells + 2) (n := slots + 12) (w0 rfl) (w6 rfl) ?_
  refine W.eq (g2 := F0 m 1401 ls [.int (iI (τ2 21 7))]) rfl ?_
  refine lv_iload hx hb (i := 6) (x := k) (by decide +kernel) (lv_at hl 1 rfl) ?_
  refine lv_icmp_eq hx hb (off := 5) (tgt := 1408) (by decide +kernel) (by decide) (fun _ => ?_) (fun h => absurd hk h)
  refine lv_iload hx hb (i := 6) (x := k) (by decide +kernel) (lv_at hl 1 rfl) ?_
  have fin : ∀ pc9 : Nat, pc9 = 1425 → W p l e room_1 s m args below meth c H locs (cells + 2) (slots + 12) Q (F0 m pc9 ls []) := by
    rintro _ rfl
    refine lv_goto hx hb (off := 1066) (tgt := 2491) (by decide +kernel) (by decide) ?_
    exact kk τ2 fo' _ _ _ hW2 hP hD hS (lv_sub hl [2, 3, 4, 5, 6, 7] rfl)
  refine lv_if_ne hx hb (off := 15) (tgt := 1425) (by decide +kernel) (by decide) (fun _ => fin _ rfl) (fun hk0 => ?_)
  refine lv_aload_n hx hb (k := 3) (i := 3) (x := qo) (by decide +kernel) rfl (lv_at hl 5 rfl) ?_
  refine lv_iconst hx hb (n := 0) (v := 0) (by decide +kernel) rfl ?_
  refine va_lald hx hb hK hP (31 + 0) 2 (wOX_get (j := 0) rfl) rfl vp01 (by decide +kernel) ?_
  refine lv_iload hx hb (i := 7) (x := b') (by decide +kernel) (lv_at hl 0 rfl) ?_
  refine lv_i2l hx hb (by decide +kernel) rfl ?_
  refine W.lcmp hx hb (by decide +kernel) ?_
  refine lv_if_eq hx hb (off := 5) (tgt := 1425) (by decide +kernel) (by decide) (fun _ => fin _ rfl) (fun h => absurd (gcmp (hv hk0)) h)
theorem cs_isThreatened (F : LF D A ad adV cA p l s m args c b L xs) {B : Int} {τ : SZ} (hW : WL B τ) (hB : B + 400 ≤ 100000000) {i : Nat} (hi : i + 5 ≤ L) (hL : L ≤ 2560) {qo qd : Nat} {fo : Nat → Int64} {fd : Nat → UInt64} (hP : va_P D cls9 (LV ad cA qo qd (sz τ) fo fd) H) (hD : va_D A (LV ad cA qo qd (sz τ) fo fd)) (hS : va_S A s.heap H locs) (hc : cells + 2 ≤ room_1.cells) (hs : slots + 12 ≤ room_1.slots) {ls : Array Slot} (hl : lv_has ls 9 [(0, .ref b), (1, .ref (ad 0)), (2, .ref (ad 21)), (3, .ref qo), (4, .ref qd), (5, .int (nI i))])
    (kk : ∀ (τ' : SZ) (fo' : Nat → Int64) (H' : Heap) (locs' : List Loc) (ls' : Array Slot), WL (B + 200) τ' → va_P D cls9 (LV ad cA qo qd (sz τ') fo' fd) H' → va_D A (LV ad cA qo qd (sz τ') fo' fd) → va_S A s.heap H' locs' → lv_has ls' 9 [(0, .ref b), (1, .ref (ad 0)), (2, .ref (ad 21)), (3, .ref qo), (4, .ref qd), (5, .int (nI i))] → W p l e room_1 s m args below meth c H' locs' (cells + 2) (slots + 12) Q (F0 m 2491 ls' [])) : W p l e room_1 s m args below meth c H locs cells slots Q (F0 m 1428 ls []) := by
  obtain ⟨hx, hb, hml, hown, hts, hK, hWX, hA, hN, hX, hbl, hbA, hl0⟩ := F
  obtain ⟨r, b', τ1, τ2, hr, hE, hm, ht, hW2, hu, hq⟩ := cal_rr (ad := ad) (cA := cA) (as' := [.inr (xs (i + 1))]) (kc_isThreatened hW hB (xs (i + 1))) (by simp only [List.map_cons, List.map_nil, vT1]) (by decide) (by decide)
  refine lv_aload_n hx hb (k := 1) (i := 1) (x := ad 0) (by decide +kernel) rfl (lv_at hl 1 rfl) ?_
  refine lv_aload_n hx hb (k := 0) (i := 0) (x := b) (by decide +kernel) rfl (lv_at hl 0 rfl) ?_
  refine lv_iload hx hb (i := 5) (x := nI i) (by decide +kernel) (lv_at hl 5 rfl) ?_
  refine lv_iconst hx hb (n := 1) (v := 1) (by decide +kernel) rfl ?_
  refine lv_iadd hx hb (x := nI i) (y := 1) (by decide +kernel) ?_
  rw [ia1]
  refine va_sld hx hb hX hbl hbA hS (vp_in_nI (n := i + 1) (by omega) (by omega)) (by decide +kernel) ?_
  rw [nI_clamp (show i + 1 < 2 ^ 31 by omega)]
  refine lv_aload_n hx hb (k := 3) (i := 3) (x := qo) (by decide +kernel) rfl (lv_at hl 3 rfl) ?_
  refine lm_call (own := RL) (x := 194) (n := 3) (rest := []) (w_isThreatened (a1 := xs (i + 1)) (fo := fo) (qo := qo) (X := [(qd, .inl (cA 3, 1, .inr (.inr (.inr (.inl fd)))))]) hl0 hr hE) hx hts hb hown hP hD hK hWX hA hN hS (hl.1.trans hml.symm) (lz 100 rfl) (lz 101 rfl) (lz 102 rfl) (lz 3 rfl) ⟨by decide, by decide, by decide +kernel⟩ rfl ⟨by decide, by decide, hc, hs⟩ (by decide) (by decide +kernel) rfl (fun k W' hG H locs hP hD hS => ?_)
  obtain ⟨fo', rfl, hk, hv⟩ := hu _ _ _ _ _ hG
  refine lv_istore hx hb (i := 6) (lv' := [(6, .int k), (0, .ref b), (1, .ref (ad 0)), (2, .ref (ad 21)), (3, .ref qo), (4, .ref qd), (5, .int (nI i))]) (by decide +kernel) hl (by decide) rfl (fun ls hl => ?_)
  refine lv_aload_n hx hb (k := 2) (i := 2) (x := ad 21) (by decide +kernel) rfl (lv_at hl 3 rfl) ?_
  refine lv_aload_n hx hb (k := 0) (i := 0) (x := b) (by decide +kernel) rfl (lv_at hl 1 rfl) ?_
  refine lv_iload hx hb (i := 5) (x := nI i) (by decide +kernel) (lv_at hl 6 rfl) ?_
  refine lv_iconst hx hb (n := 1) (v := 1) (by decide +kernel) rfl ?_
  refine lv_iadd hx hb (x := nI i) (y := 1) (by decide +kernel) ?_
  rw [ia1]
  refine va_sld hx hb hX hbl hbA hS (vp_in_nI (n := i + 1) (by omega) (by omega)) (by decide +kernel) ?_
  rw [nI_clamp (show i + 1 < 2 ^ 31 by omega)]
  refine lcall (d := 12) (j := m8_isThreatened) (a := 21) (as := [.inr (xs (i + 1))]) (X := [(qo, .inl (cA 2, 1, .inr (.inl fo'))), (qd, .inl (cA 3, 1, .inr (.inr (.inr (.inl fd)))))]) (own := RL) (x := 197) (rest := []) hl0 hm (by decide) rfl rfl hx hts hb hown hP hD hK hWX hA hS (hl.1.trans hml.symm) (lz 103 rfl) (lz 104 rfl) (lz 105 rfl) ⟨by decide, by decide, r0 rfl hc, r6 rfl hs⟩ (by decide) (by decide +kernel) rfl (fun E τ e => by cases e) (fun v τ e H locs hP hS => ?_)
  cases e
  have hD := wOX_D (τ := sz τ2) hD
  refine W.widen (k := cells + 2) (n := slots + 12) (w0 rfl) (w6 rfl) ?_
  refine W.eq (g2 := F0 m 1451 ls [.int b']) rfl ?_
  refine lv_istore hx hb (i := 7) (lv' := [(7, .int b'), (6, .int k), (0, .ref b), (1, .ref (ad 0)), (2, .ref (ad 21)), (3, .ref qo), (4, .ref qd), (5, .int (nI i))]) (by decide +kernel) hl (by decide) rfl (fun ls hl => ?_)
  refine lv_aload_n hx hb (k := 2) (i := 2) (x := ad 21) (by decide +kernel) rfl (lv_at hl 4 rfl) ?_
  refine lcall (d := 12) (j := m8_thrown) (a := 21) (as := []) (X := [(qo, .inl (cA 2, 1, .inr (.inl fo'))), (qd, .inl (cA 3, 1, .inr (.inr (.inr (.inl fd)))))]) (own := RL) (x := 140) (rest := []) hl0 ht (by decide) rfl rfl hx hts hb hown hP hD hK hWX hA hS (hl.1.trans hml.symm) (lz 7 rfl) (lz 8 rfl) (lz 9 rfl) ⟨by decide, by decide, r0 rfl hc, r6 rfl hs⟩ (by decide) (by decide +kernel) rfl (fun E τ e => by cases e) (fun v τ e H locs hP hS => ?_)
  cases e
  have hD := wOX_D (τ := sz τ2) hD
  refine W.widen (k := cells + 2) (n := slots + 12) (w0 rfl) (w6 rfl) ?_
  refine W.eq (g2 := F0 m 1457 ls [.int (iI (τ2 21 7))]) rfl ?_
  refine lv_iload hx hb (i := 6) (x := k) (by decide +kernel) (lv_at hl 1 rfl) ?_
  refine lv_icmp_eq hx hb (off := 5) (tgt := 1464) (by decide +kernel) (by decide) (fun _ => ?_) (fun h => absurd hk h)
  refine lv_iload hx hb (i := 6) (x := k) (by decide +kernel) (lv_at hl 1 rfl) ?_
  have fin : ∀ pc9 : Nat, pc9 = 1488 → W p l e room_1 s m args below meth c H locs (cells + 2) (slots + 12) Q (F0 m pc9 ls []) := by
    rintro _ rfl
    refine lv_goto hx hb (off := 1003) (tgt := 2491) (by decide +kernel) (by decide) ?_
    exact kk τ2 fo' _ _ _ hW2 hP hD hS (lv_sub hl [2, 3, 4, 5, 6, 7] rfl)
  refine lv_if_ne hx hb (off := 22) (tgt := 1488) (by decide +kernel) (by decide) (fun _ => fin _ rfl) (fun hk0 => ?_)
  refine lv_aload_n hx hb (k := 3) (i := 3) (x := qo) (by decide +kernel) rfl (lv_at hl 5 rfl) ?_
  refine lv_iconst hx hb (n := 0) (v := 0) (by decide +kernel) rfl ?_
  refine va_lald hx hb hK hP (31 + 0) 2 (wOX_get (j := 0) rfl) rfl vp01 (by decide +kernel) ?_
  refine lv_iload hx hb (i := 7) (x := b') (by decide +kernel) (lv_at hl 0 rfl) ?_
  refine lbl hx hb (off0 := 7) (t := 1481) (off1 := 4) (y := 1482) (by decide +kernel) (by decide) (by decide +kernel) (by decide +kernel) (by decide) (by decide +kernel) rfl ?_
  refine W.lcmp hx hb (by decide +kernel) ?_
  refine lv_if_eq hx hb (off := 5) (tgt := 1488) (by decide +kernel) (by decide) (fun _ => fin _ rfl) (fun h => absurd (gcmp (hv hk0)) h)
theorem cs_gain (F : LF D A ad adV cA p l s m args c b L xs) {B : Int} {τ : SZ} (hW : WL B τ) (hB : B + 400 ≤ 100000000) {i : Nat} (hi : i + 5 ≤ L) (hL : L ≤ 2560) {qo qd : Nat} {fo : Nat → Int64} {fd : Nat → UInt64} (hP : va_P D cls9 (LV ad cA qo qd (sz τ) fo fd) H) (hD : va_D A (LV ad cA qo qd (sz τ) fo fd)) (hS : va_S A s.heap H locs) (hc : cells + 2 ≤ room_1.cells) (hs : slots + 12 ≤ room_1.slots) {ls : Array Slot} (hl : lv_has ls 9 [(0, .ref b), (1, .ref (ad 0)), (2, .ref (ad 21)), (3, .ref qo), (4, .ref qd), (5, .int (nI i))])
    (kk : ∀ (τ' : SZ) (fo' : Nat → Int64) (H' : Heap) (locs' : List Loc) (ls' : Array Slot), WL (B + 200) τ' → va_P D cls9 (LV ad cA qo qd (sz τ') fo' fd) H' → va_D A (LV ad cA qo qd (sz τ') fo' fd) → va_S A s.heap H' locs' → lv_has ls' 9 [(0, .ref b), (1, .ref (ad 0)), (2, .ref (ad 21)), (3, .ref qo), (4, .ref qd), (5, .int (nI i))] → W p l e room_1 s m args below meth c H' locs' (cells + 2) (slots + 12) Q (F0 m 2491 ls' [])) : W p l e room_1 s m args below meth c H locs cells slots Q (F0 m 1491 ls []) := by
  obtain ⟨hx, hb, hml, hown, hts, hK, hWX, hA, hN, hX, hbl, hbA, hl0⟩ := F
  obtain ⟨r, b', τ1, τ2, hr, hE, hm, ht, hW2, hu, hq⟩ := cal_rr (ad := ad) (cA := cA) (as' := [.inr (xs (i + 1)), .inr (xs (i + 2)), .inr (zB (xs (i + 3)))]) (kc_gain hW hB (xs (i + 1)) (xs (i + 2)) (xs (i + 3))) (by simp only [List.map_cons, List.map_nil, vT1]) (by decide) (by decide)
  refine lv_aload_n hx hb (k := 1) (i := 1) (x := ad 0) (by decide +kernel) rfl (lv_at hl 1 rfl) ?_
  refine lv_aload_n hx hb (k := 0) (i := 0) (x := b) (by decide +kernel) rfl (lv_at hl 0 rfl) ?_
  refine lv_iload hx hb (i := 5) (x := nI i) (by decide +kernel) (lv_at hl 5 rfl) ?_
  refine lv_iconst hx hb (n := 1) (v := 1) (by decide +kernel) rfl ?_
  refine lv_iadd hx hb (x := nI i) (y := 1) (by decide +kernel) ?_
  rw [ia1]
  refine va_sld hx hb hX hbl hbA hS (vp_in_nI (n := i + 1) (by omega) (by omega)) (by decide +kernel) ?_
  rw [nI_clamp (show i + 1 < 2 ^ 31 by omega)]
  refine lv_aload_n hx hb (k := 0) (i := 0) (x := b) (by decide +kernel) rfl (lv_at hl 0 rfl) ?_
  refine lv_iload hx hb (i := 5) (x := nI i) (by decide +kernel) (lv_at hl 5 rfl) ?_
  refine lv_iconst hx hb (n := 2) (v := 2) (by decide +kernel) rfl ?_
  refine lv_iadd hx hb (x := nI i) (y := 2) (by decide +kernel) ?_
  rw [ia2]
  refine va_sld hx hb hX hbl hbA hS (vp_in_nI (n := i + 2) (by omega) (by omega)) (by decide +kernel) ?_
  rw [nI_clamp (show i + 2 < 2 ^ 31 by omega)]
  refine lv_aload_n hx hb (k := 0) (i := 0) (x := b) (by decide +kernel) rfl (lv_at hl 0 rfl) ?_
  refine lv_iload hx hb (i := 5) (x := nI i) (by decide +kernel) (lv_at hl 5 rfl) ?_
  refine lv_iconst hx hb (n := 3) (v := 3) (by decide +kernel) rfl ?_
  refine lv_iadd hx hb (x := nI i) (y := 3) (by decide +kernel) ?_
  rw [ia3]
  refine va_sld hx hb hX hbl hbA hS (vp_in_nI (n := i + 3) (by omega) (by omega)) (by decide +kernel) ?_
  rw [nI_clamp (show i + 3 < 2 ^ 31 by omega)]
  refine lbool hx hb (off0 := 7) (t := 1517) (off1 := 4) (y := 1518) (by decide +kernel) (by decide) (by decide +kernel) (by decide +kernel) (by decide) (by decide +kernel) rfl ?_
  refine lv_aload_n hx hb (k := 3) (i := 3) (x := qo) (by decide +kernel) rfl (lv_at hl 3 rfl) ?_
  refine lm_call (own := RL) (x := 198) (n := 5) (rest := []) (w_gain (a1 := xs (i + 1)) (a2 := xs (i + 2)) (a3 := zB (xs (i + 3))) (fo := fo) (qo := qo) (X := [(qd, .inl (cA 3, 1, .inr (.inr (.inr (.inl fd)))))]) hl0 hr hE) hx hts hb hown hP hD hK hWX hA hN hS (hl.1.trans hml.symm) (lz 106 rfl) (lz 107 rfl) (lz 108 rfl) (lz 3 rfl) ⟨by decide, by decide, by decide +kernel⟩ rfl ⟨by decide, by decide, hc, hs⟩ (by decide) (by decide +kernel) rfl (fun k W' hG H locs hP hD hS => ?_)
  obtain ⟨fo', rfl, hk, hv⟩ := hu _ _ _ _ _ hG
  refine lv_istore hx hb (i := 6) (lv' := [(6, .int k), (0, .ref b), (1, .ref (ad 0)), (2, .ref (ad 21)), (3, .ref qo), (4, .ref qd), (5, .int (nI i))]) (by decide +kernel) hl (by decide) rfl (fun ls hl => ?_)
  refine lv_aload_n hx hb (k := 2) (i := 2) (x := ad 21) (by decide +kernel) rfl (lv_at hl 3 rfl) ?_
  refine lv_aload_n hx hb (k := 0) (i := 0) (x := b) (by decide +kernel) rfl (lv_at hl 1 rfl) ?_
  refine lv_iload hx hb (i := 5) (x := nI i) (by decide +kernel) (lv_at hl 6 rfl) ?_
  refine lv_iconst hx hb (n := 1) (v := 1) (by decide +kernel) rfl ?_
  refine lv_iadd hx hb (x := nI i) (y := 1) (by decide +kernel) ?_
  rw [ia1]
  refine va_sld hx hb hX hbl hbA hS (vp_in_nI (n := i + 1) (by omega) (by omega)) (by decide +kernel) ?_
  rw [nI_clamp (show i + 1 < 2 ^ 31 by omega)]
  refine lv_aload_n hx hb (k := 0) (i := 0) (x := b) (by decide +kernel) rfl (lv_at hl 1 rfl) ?_
  refine lv_iload hx hb (i := 5) (x := nI i) (by decide +kernel) (lv_at hl 6 rfl) ?_
  refine lv_iconst hx hb (n := 2) (v := 2) (by decide +kernel) rfl ?_
  refine lv_iadd hx hb (x := nI i) (y := 2) (by decide +kernel) ?_
  rw [ia2]
  refine va_sld hx hb hX hbl hbA hS (vp_in_nI (n := i + 2) (by omega) (by omega)) (by decide +kernel) ?_
  rw [nI_clamp (show i + 2 < 2 ^ 31 by omega)]
  refine lv_aload_n hx hb (k := 0) (i := 0) (x := b) (by decide +kernel) rfl (lv_at hl 1 rfl) ?_
  refine lv_iload hx hb (i := 5) (x := nI i) (by decide +kernel) (lv_at hl 6 rfl) ?_
  refine lv_iconst hx hb (n := 3) (v := 3) (by decide +kernel) rfl ?_
  refine lv_iadd hx hb (x := nI i) (y := 3) (by decide +kernel) ?_
  rw [ia3]
  refine va_sld hx hb hX hbl hbA hS (vp_in_nI (n := i + 3) (by omega) (by omega)) (by decide +kernel) ?_
  rw [nI_clamp (show i + 3 < 2 ^ 31 by omega)]
  refine lbool hx hb (off0 := 7) (t := 1550) (off1 := 4) (y := 1551) (by decide +kernel) (by decide) (by decide +kernel) (by decide +kernel) (by decide) (by decide +kernel) rfl ?_
  refine lcall (d := 12) (j := m8_gain) (a := 21) (as := [.inr (xs (i + 1)), .inr (xs (i + 2)), .inr (zB (xs (i + 3)))]) (X := [(qo, .inl (cA 2, 1, .inr (.inl fo'))), (qd, .inl (cA 3, 1, .inr (.inr (.inr (.inl fd)))))]) (own := RL) (x := 200) (rest := []) hl0 hm (by decide) rfl rfl hx hts hb hown hP hD hK hWX hA hS (hl.1.trans hml.symm) (lz 109 rfl) (lz 110 rfl) (lz 111 rfl) ⟨by decide, by decide, r0 rfl hc, r6 rfl hs⟩ (by decide) (by decide +kernel) rfl (fun E τ e => by cases e) (fun v τ e H locs hP hS => ?_)
  cases e
  have hD := wOX_D (τ := sz τ2) hD
  refine W.widen (k := cells + 2) (n := slots + 12) (w0 rfl) (w6 rfl) ?_
  refine W.eq (g2 := F0 m 1554 ls [.int b']) rfl ?_
  refine lv_istore hx hb (i := 7) (lv' := [(7, .int b'), (6, .int k), (0, .ref b), (1, .ref (ad 0)), (2, .ref (ad 21)), (3, .ref qo), (4, .ref qd), (5, .int (nI i))]) (by decide +kernel) hl (by decide) rfl (fun ls hl => ?_)
  refine lv_aload_n hx hb (k := 2) (i := 2) (x := ad 21) (by decide +kernel) rfl (lv_at hl 4 rfl) ?_
  refine lcall (d := 12) (j := m8_thrown) (a := 21) (as := []) (X := [(qo, .inl (cA 2, 1, .inr (.inl fo'))), (qd, .inl (cA 3, 1, .inr (.inr (.inr (.inl fd)))))]) (own := RL) (x := 140) (rest := []) hl0 ht (by decide) rfl rfl hx hts hb hown hP hD hK hWX hA hS (hl.1.trans hml.symm) (lz 7 rfl) (lz 8 rfl) (lz 9 rfl) ⟨by decide, by decide, r0 rfl hc, r6 rfl hs⟩ (by decide) (by decide +kernel) rfl (fun E τ e => by cases e) (fun v τ e H locs hP hS => ?_)
  cases e
  have hD := wOX_D (τ := sz τ2) hD
  refine W.widen (k := cells + 2) (n := slots + 12) (w0 rfl) (w6 rfl) ?_
  refine W.eq (g2 := F0 m 1560 ls [.int (iI (τ2 21 7))]) rfl ?_
  refine lv_iload hx hb (i := 6) (x := k) (by decide +kernel) (lv_at hl 1 rfl) ?_
  refine lv_icmp_eq hx hb (off := 5) (tgt := 1567) (by decide +kernel) (by decide) (fun _ => ?_) (fun h => absurd hk h)
  refine lv_iload hx hb (i := 6) (x := k) (by decide +kernel) (lv_at hl 1 rfl) ?_
  have fin : ∀ pc9 : Nat, pc9 = 1584 → W p l e room_1 s m args below meth c H locs (cells + 2) (slots + 12) Q (F0 m pc9 ls []) := by
    rintro _ rfl
    refine lv_goto hx hb (off := 907) (tgt := 2491) (by decide +kernel) (by decide) ?_
    exact kk τ2 fo' _ _ _ hW2 hP hD hS (lv_sub hl [2, 3, 4, 5, 6, 7] rfl)
  refine lv_if_ne hx hb (off := 15) (tgt := 1584) (by decide +kernel) (by decide) (fun _ => fin _ rfl) (fun hk0 => ?_)
  refine lv_aload_n hx hb (k := 3) (i := 3) (x := qo) (by decide +kernel) rfl (lv_at hl 5 rfl) ?_
  refine lv_iconst hx hb (n := 0) (v := 0) (by decide +kernel) rfl ?_
  refine va_lald hx hb hK hP (31 + 0) 2 (wOX_get (j := 0) rfl) rfl vp01 (by decide +kernel) ?_
  refine lv_iload hx hb (i := 7) (x := b') (by decide +kernel) (lv_at hl 0 rfl) ?_
  refine lv_i2l hx hb (by decide +kernel) rfl ?_
  refine W.lcmp hx hb (by decide +kernel) ?_
  refine lv_if_eq hx hb (off := 5) (tgt := 1584) (by decide +kernel) (by decide) (fun _ => fin _ rfl) (fun h => absurd (gcmp (hv hk0)) h)
theorem cs_best (F : LF D A ad adV cA p l s m args c b L xs) {B : Int} {τ : SZ} (hW : WL B τ) (hB : B + 400 ≤ 100000000) {i : Nat} (hi : i + 5 ≤ L) (hL : L ≤ 2560) {qo qd : Nat} {fo : Nat → Int64} {fd : Nat → UInt64} (hP : va_P D cls9 (LV ad cA qo qd (sz τ) fo fd) H) (hD : va_D A (LV ad cA qo qd (sz τ) fo fd)) (hS : va_S A s.heap H locs) (hc : cells + 2 ≤ room_1.cells) (hs : slots + 12 ≤ room_1.slots) {ls : Array Slot} (hl : lv_has ls 9 [(0, .ref b), (1, .ref (ad 0)), (2, .ref (ad 21)), (3, .ref qo), (4, .ref qd), (5, .int (nI i))])
    (kk : ∀ (τ' : SZ) (fo' : Nat → Int64) (H' : Heap) (locs' : List Loc) (ls' : Array Slot), WL (B + 200) τ' → va_P D cls9 (LV ad cA qo qd (sz τ') fo' fd) H' → va_D A (LV ad cA qo qd (sz τ') fo' fd) → va_S A s.heap H' locs' → lv_has ls' 9 [(0, .ref b), (1, .ref (ad 0)), (2, .ref (ad 21)), (3, .ref qo), (4, .ref qd), (5, .int (nI i))] → W p l e room_1 s m args below meth c H' locs' (cells + 2) (slots + 12) Q (F0 m 2491 ls' [])) : W p l e room_1 s m args below meth c H locs cells slots Q (F0 m 1587 ls []) := by
  obtain ⟨hx, hb, hml, hown, hts, hK, hWX, hA, hN, hX, hbl, hbA, hl0⟩ := F
  obtain ⟨r, b', τ1, τ2, hr, hE, hm, ht, hW2, hu, hq⟩ := cal_rr (ad := ad) (cA := cA) (as' := [.inr (xs (i + 1))]) (kc_best hW hB (xs (i + 1))) (by simp only [List.map_cons, List.map_nil, vT1]) (by decide) (by decide)
  refine lv_aload_n hx hb (k := 1) (i := 1) (x := ad 0) (by decide +kernel) rfl (lv_at hl 1 rfl) ?_
  refine lv_aload_n hx hb (k := 0) (i := 0) (x := b) (by decide +kernel) rfl (lv_at hl 0 rfl) ?_
  refine lv_iload hx hb (i := 5) (x := nI i) (by decide +kernel) (lv_at hl 5 rfl) ?_
  refine lv_iconst hx hb (n := 1) (v := 1) (by decide +kernel) rfl ?_
  refine lv_iadd hx hb (x := nI i) (y := 1) (by decide +kernel) ?_
  rw [ia1]
  refine va_sld hx hb hX hbl hbA hS (vp_in_nI (n := i + 1) (by omega) (by omega)) (by decide +kernel) ?_
  rw [nI_clamp (show i + 1 < 2 ^ 31 by omega)]
  refine lv_aload_n hx hb (k := 3) (i := 3) (x := qo) (by decide +kernel) rfl (lv_at hl 3 rfl) ?_
  refine lm_call (own := RL) (x := 201) (n := 3) (rest := []) (w_best (a1 := xs (i + 1)) (fo := fo) (qo := qo) (X := [(qd, .inl (cA 3, 1, .inr (.inr (.inr (.inl fd)))))]) hl0 hr hE) hx hts hb hown hP hD hK hWX hA hN hS (hl.1.trans hml.symm) (lz 112 rfl) (lz 113 rfl) (lz 114 rfl) (lz 3 rfl) ⟨by decide, by decide, by decide +kernel⟩ rfl ⟨by decide, by decide, hc, hs⟩ (by decide) (by decide +kernel) rfl (fun k W' hG H locs hP hD hS => ?_)
  obtain ⟨fo', rfl, hk, hv⟩ := hu _ _ _ _ _ hG
  refine lv_istore hx hb (i := 6) (lv' := [(6, .int k), (0, .ref b), (1, .ref (ad 0)), (2, .ref (ad 21)), (3, .ref qo), (4, .ref qd), (5, .int (nI i))]) (by decide +kernel) hl (by decide) rfl (fun ls hl => ?_)
  refine lv_aload_n hx hb (k := 2) (i := 2) (x := ad 21) (by decide +kernel) rfl (lv_at hl 3 rfl) ?_
  refine lv_aload_n hx hb (k := 0) (i := 0) (x := b) (by decide +kernel) rfl (lv_at hl 1 rfl) ?_
  refine lv_iload hx hb (i := 5) (x := nI i) (by decide +kernel) (lv_at hl 6 rfl) ?_
  refine lv_iconst hx hb (n := 1) (v := 1) (by decide +kernel) rfl ?_
  refine lv_iadd hx hb (x := nI i) (y := 1) (by decide +kernel) ?_
  rw [ia1]
  refine va_sld hx hb hX hbl hbA hS (vp_in_nI (n := i + 1) (by omega) (by omega)) (by decide +kernel) ?_
  rw [nI_clamp (show i + 1 < 2 ^ 31 by omega)]
  refine lcall (d := 12) (j := m8_best) (a := 21) (as := [.inr (xs (i + 1))]) (X := [(qo, .inl (cA 2, 1, .inr (.inl fo'))), (qd, .inl (cA 3, 1, .inr (.inr (.inr (.inl fd)))))]) (own := RL) (x := 203) (rest := []) hl0 hm (by decide) rfl rfl hx hts hb hown hP hD hK hWX hA hS (hl.1.trans hml.symm) (lz 115 rfl) (lz 116 rfl) (lz 117 rfl) ⟨by decide, by decide, r0 rfl hc, r6 rfl hs⟩ (by decide) (by decide +kernel) rfl (fun E τ e => by cases e) (fun v τ e H locs hP hS => ?_)
  cases e
  have hD := wOX_D (τ := sz τ2) hD
  refine W.widen (k := cells + 2) (n := slots + 12) (w0 rfl) (w6 rfl) ?_
  refine W.eq (g2 := F0 m 1610 ls [.int b']) rfl ?_
  refine lv_istore hx hb (i := 7) (lv' := [(7, .int b'), (6, .int k), (0, .ref b), (1, .ref (ad 0)), (2, .ref (ad 21)), (3, .ref qo), (4, .ref qd), (5, .int (nI i))]) (by decide +kernel) hl (by decide) rfl (fun ls hl => ?_)
  refine lv_aload_n hx hb (k := 2) (i := 2) (x := ad 21) (by decide +kernel) rfl (lv_at hl 4 rfl) ?_
  refine lcall (d := 12) (j := m8_thrown) (a := 21) (as := []) (X := [(qo, .inl (cA 2, 1, .inr (.inl fo'))), (qd, .inl (cA 3, 1, .inr (.inr (.inr (.inl fd)))))]) (own := RL) (x := 140) (rest := []) hl0 ht (by decide) rfl rfl hx hts hb hown hP hD hK hWX hA hS (hl.1.trans hml.symm) (lz 7 rfl) (lz 8 rfl) (lz 9 rfl) ⟨by decide, by decide, r0 rfl hc, r6 rfl hs⟩ (by decide) (by decide +kernel) rfl (fun E τ e => by cases e) (fun v τ e H locs hP hS => ?_)
  cases e
  have hD := wOX_D (τ := sz τ2) hD
  refine W.widen (k := cells + 2) (n := slots + 12) (w0 rfl) (w6 rfl) ?_
  refine W.eq (g2 := F0 m 1616 ls [.int (iI (τ2 21 7))]) rfl ?_
  refine lv_iload hx hb (i := 6) (x := k) (by decide +kernel) (lv_at hl 1 rfl) ?_
  refine lv_icmp_eq hx hb (off := 5) (tgt := 1623) (by decide +kernel) (by decide) (fun _ => ?_) (fun h => absurd hk h)
  refine lv_iload hx hb (i := 6) (x := k) (by decide +kernel) (lv_at hl 1 rfl) ?_
  have fin : ∀ pc9 : Nat, pc9 = 1640 → W p l e room_1 s m args below meth c H locs (cells + 2) (slots + 12) Q (F0 m pc9 ls []) := by
    rintro _ rfl
    refine lv_goto hx hb (off := 851) (tgt := 2491) (by decide +kernel) (by decide) ?_
    exact kk τ2 fo' _ _ _ hW2 hP hD hS (lv_sub hl [2, 3, 4, 5, 6, 7] rfl)
  refine lv_if_ne hx hb (off := 15) (tgt := 1640) (by decide +kernel) (by decide) (fun _ => fin _ rfl) (fun hk0 => ?_)
  refine lv_aload_n hx hb (k := 3) (i := 3) (x := qo) (by decide +kernel) rfl (lv_at hl 5 rfl) ?_
  refine lv_iconst hx hb (n := 0) (v := 0) (by decide +kernel) rfl ?_
  refine va_lald hx hb hK hP (31 + 0) 2 (wOX_get (j := 0) rfl) rfl vp01 (by decide +kernel) ?_
  refine lv_iload hx hb (i := 7) (x := b') (by decide +kernel) (lv_at hl 0 rfl) ?_
  refine lv_i2l hx hb (by decide +kernel) rfl ?_
  refine W.lcmp hx hb (by decide +kernel) ?_
  refine lv_if_eq hx hb (off := 5) (tgt := 1640) (by decide +kernel) (by decide) (fun _ => fin _ rfl) (fun h => absurd (gcmp (hv hk0)) h)
theorem cs_toLock (F : LF D A ad adV cA p l s m args c b L xs) {B : Int} {τ : SZ} (hW : WL B τ) (hB : B + 400 ≤ 100000000) {i : Nat} (hi : i + 5 ≤ L) (hL : L ≤ 2560) {qo qd : Nat} {fo : Nat → Int64} {fd : Nat → UInt64} (hP : va_P D cls9 (LV ad cA qo qd (sz τ) fo fd) H) (hD : va_D A (LV ad cA qo qd (sz τ) fo fd)) (hS : va_S A s.heap H locs) (hc : cells + 2 ≤ room_1.cells) (hs : slots + 12 ≤ room_1.slots) {ls : Array Slot} (hl : lv_has ls 9 [(0, .ref b), (1, .ref (ad 0)), (2, .ref (ad 21)), (3, .ref qo), (4, .ref qd), (5, .int (nI i))])
    (kk : ∀ (τ' : SZ) (fo' : Nat → Int64) (H' : Heap) (locs' : List Loc) (ls' : Array Slot), WL (B + 200) τ' → va_P D cls9 (LV ad cA qo qd (sz τ') fo' fd) H' → va_D A (LV ad cA qo qd (sz τ') fo' fd) → va_S A s.heap H' locs' → lv_has ls' 9 [(0, .ref b), (1, .ref (ad 0)), (2, .ref (ad 21)), (3, .ref qo), (4, .ref qd), (5, .int (nI i))] → W p l e room_1 s m args below meth c H' locs' (cells + 2) (slots + 12) Q (F0 m 2491 ls' [])) : W p l e room_1 s m args below meth c H locs cells slots Q (F0 m 1643 ls []) := by
  obtain ⟨hx, hb, hml, hown, hts, hK, hWX, hA, hN, hX, hbl, hbA, hl0⟩ := F
  obtain ⟨r, b', τ1, τ2, hr, hE, hm, ht, hW2, hu, hq⟩ := cal_rr (ad := ad) (cA := cA) (as' := [.inr (xs (i + 1)), .inr (xs (i + 2))]) (kc_toLock hW hB (xs (i + 1)) (xs (i + 2))) (by simp only [List.map_cons, List.map_nil, vT1]) (by decide) (by decide)
  refine lv_aload_n hx hb (k := 1) (i := 1) (x := ad 0) (by decide +kernel) rfl (lv_at hl 1 rfl) ?_
  refine lv_aload_n hx hb (k := 0) (i := 0) (x := b) (by decide +kernel) rfl (lv_at hl 0 rfl) ?_
  refine lv_iload hx hb (i := 5) (x := nI i) (by decide +kernel) (lv_at hl 5 rfl) ?_
  refine lv_iconst hx hb (n := 1) (v := 1) (by decide +kernel) rfl ?_
  refine lv_iadd hx hb (x := nI i) (y := 1) (by decide +kernel) ?_
  rw [ia1]
  refine va_sld hx hb hX hbl hbA hS (vp_in_nI (n := i + 1) (by omega) (by omega)) (by decide +kernel) ?_
  rw [nI_clamp (show i + 1 < 2 ^ 31 by omega)]
  refine lv_aload_n hx hb (k := 0) (i := 0) (x := b) (by decide +kernel) rfl (lv_at hl 0 rfl) ?_
  refine lv_iload hx hb (i := 5) (x := nI i) (by decide +kernel) (lv_at hl 5 rfl) ?_
  refine lv_iconst hx hb (n := 2) (v := 2) (by decide +kernel) rfl ?_
  refine lv_iadd hx hb (x := nI i) (y := 2) (by decide +kernel) ?_
  rw [ia2]
  refine va_sld hx hb hX hbl hbA hS (vp_in_nI (n := i + 2) (by omega) (by omega)) (by decide +kernel) ?_
  rw [nI_clamp (show i + 2 < 2 ^ 31 by omega)]
  refine lv_aload_n hx hb (k := 3) (i := 3) (x := qo) (by decide +kernel) rfl (lv_at hl 3 rfl) ?_
  refine lm_call (own := RL) (x := 204) (n := 4) (rest := []) (w_toLock (a1 := xs (i + 1)) (a2 := xs (i + 2)) (fo := fo) (qo := qo) (X := [(qd, .inl (cA 3, 1, .inr (.inr (.inr (.inl fd)))))]) hl0 hr hE) hx hts hb hown hP hD hK hWX hA hN hS (hl.1.trans hml.symm) (lz 118 rfl) (lz 119 rfl) (lz 120 rfl) (lz 3 rfl) ⟨by decide, by decide, by decide +kernel⟩ rfl ⟨by decide, by decide, hc, hs⟩ (by decide) (by decide +kernel) rfl (fun k W' hG H locs hP hD hS => ?_)
  obtain ⟨fo', rfl, hk, hv⟩ := hu _ _ _ _ _ hG
  refine lv_istore hx hb (i := 6) (lv' := [(6, .int k), (0, .ref b), (1, .ref (ad 0)), (2, .ref (ad 21)), (3, .ref qo), (4, .ref qd), (5, .int (nI i))]) (by decide +kernel) hl (by decide) rfl (fun ls hl => ?_)
  refine lv_aload_n hx hb (k := 2) (i := 2) (x := ad 21) (by decide +kernel) rfl (lv_at hl 3 rfl) ?_
  refine lv_aload_n hx hb (k := 0) (i := 0) (x := b) (by decide +kernel) rfl (lv_at hl 1 rfl) ?_
  refine lv_iload hx hb (i := 5) (x := nI i) (by decide +kernel) (lv_at hl 6 rfl) ?_
  refine lv_iconst hx hb (n := 1) (v := 1) (by decide +kernel) rfl ?_
  refine lv_iadd hx hb (x := nI i) (y := 1) (by decide +kernel) ?_
  rw [ia1]
  refine va_sld hx hb hX hbl hbA hS (vp_in_nI (n := i + 1) (by omega) (by omega)) (by decide +kernel) ?_
  rw [nI_clamp (show i + 1 < 2 ^ 31 by omega)]
  refine lv_aload_n hx hb (k := 0) (i := 0) (x := b) (by decide +kernel) rfl (lv_at hl 1 rfl) ?_
  refine lv_iload hx hb (i := 5) (x := nI i) (by decide +kernel) (lv_at hl 6 rfl) ?_
  refine lv_iconst hx hb (n := 2) (v := 2) (by decide +kernel) rfl ?_
  refine lv_iadd hx hb (x := nI i) (y := 2) (by decide +kernel) ?_
  rw [ia2]
  refine va_sld hx hb hX hbl hbA hS (vp_in_nI (n := i + 2) (by omega) (by omega)) (by decide +kernel) ?_
  rw [nI_clamp (show i + 2 < 2 ^ 31 by omega)]
  refine lcall (d := 12) (j := m8_toLock) (a := 21) (as := [.inr (xs (i + 1)), .inr (xs (i + 2))]) (X := [(qo, .inl (cA 2, 1, .inr (.inl fo'))), (qd, .inl (cA 3, 1, .inr (.inr (.inr (.inl fd)))))]) (own := RL) (x := 206) (rest := []) hl0 hm (by decide) rfl rfl hx hts hb hown hP hD hK hWX hA hS (hl.1.trans hml.symm) (lz 121 rfl) (lz 122 rfl) (lz 123 rfl) ⟨by decide, by decide, r0 rfl hc, r6 rfl hs⟩ (by decide) (by decide +kernel) rfl (fun E τ e => by cases e) (fun v τ e H locs hP hS => ?_)
  cases e
  have hD := wOX_D (τ := sz τ2) hD
  refine W.widen (k := cells + 2) (n := slots + 12) (w0 rfl) (w6 rfl) ?_
  refine W.eq (g2 := F0 m 1678 ls [.int b']) rfl ?_
  refine lv_istore hx hb (i := 7) (lv' := [(7, .int b'), (6, .int k), (0, .ref b), (1, .ref (ad 0)), (2, .ref (ad 21)), (3, .ref qo), (4, .ref qd), (5, .int (nI i))]) (by decide +kernel) hl (by decide) rfl (fun ls hl => ?_)
  refine lv_aload_n hx hb (k := 2) (i := 2) (x := ad 21) (by decide +kernel) rfl (lv_at hl 4 rfl) ?_
  refine lcall (d := 12) (j := m8_thrown) (a := 21) (as := []) (X := [(qo, .inl (cA 2, 1, .inr (.inl fo'))), (qd, .inl (cA 3, 1, .inr (.inr (.inr (.inl fd)))))]) (own := RL) (x := 140) (rest := []) hl0 ht (by decide) rfl rfl hx hts hb hown hP hD hK hWX hA hS (hl.1.trans hml.symm) (lz 7 rfl) (lz 8 rfl) (lz 9 rfl) ⟨by decide, by decide, r0 rfl hc, r6 rfl hs⟩ (by decide) (by decide +kernel) rfl (fun E τ e => by cases e) (fun v τ e H locs hP hS => ?_)
  cases e
  have hD := wOX_D (τ := sz τ2) hD
  refine W.widen (k := cells + 2) (n := slots + 12) (w0 rfl) (w6 rfl) ?_
  refine W.eq (g2 := F0 m 1684 ls [.int (iI (τ2 21 7))]) rfl ?_
  refine lv_iload hx hb (i := 6) (x := k) (by decide +kernel) (lv_at hl 1 rfl) ?_
  refine lv_icmp_eq hx hb (off := 5) (tgt := 1691) (by decide +kernel) (by decide) (fun _ => ?_) (fun h => absurd hk h)
  refine lv_iload hx hb (i := 6) (x := k) (by decide +kernel) (lv_at hl 1 rfl) ?_
  have fin : ∀ pc9 : Nat, pc9 = 1708 → W p l e room_1 s m args below meth c H locs (cells + 2) (slots + 12) Q (F0 m pc9 ls []) := by
    rintro _ rfl
    refine lv_goto hx hb (off := 783) (tgt := 2491) (by decide +kernel) (by decide) ?_
    exact kk τ2 fo' _ _ _ hW2 hP hD hS (lv_sub hl [2, 3, 4, 5, 6, 7] rfl)
  refine lv_if_ne hx hb (off := 15) (tgt := 1708) (by decide +kernel) (by decide) (fun _ => fin _ rfl) (fun hk0 => ?_)
  refine lv_aload_n hx hb (k := 3) (i := 3) (x := qo) (by decide +kernel) rfl (lv_at hl 5 rfl) ?_
  refine lv_iconst hx hb (n := 0) (v := 0) (by decide +kernel) rfl ?_
  refine va_lald hx hb hK hP (31 + 0) 2 (wOX_get (j := 0) rfl) rfl vp01 (by decide +kernel) ?_
  refine lv_iload hx hb (i := 7) (x := b') (by decide +kernel) (lv_at hl 0 rfl) ?_
  refine lv_i2l hx hb (by decide +kernel) rfl ?_
  refine W.lcmp hx hb (by decide +kernel) ?_
  refine lv_if_eq hx hb (off := 5) (tgt := 1708) (by decide +kernel) (by decide) (fun _ => fin _ rfl) (fun h => absurd (gcmp (hv hk0)) h)
theorem cs_boldest (F : LF D A ad adV cA p l s m args c b L xs) {B : Int} {τ : SZ} (hW : WL B τ) (hB : B + 400 ≤ 100000000) {i : Nat} (hi : i + 5 ≤ L) (hL : L ≤ 2560) {qo qd : Nat} {fo : Nat → Int64} {fd : Nat → UInt64} (hP : va_P D cls9 (LV ad cA qo qd (sz τ) fo fd) H) (hD : va_D A (LV ad cA qo qd (sz τ) fo fd)) (hS : va_S A s.heap H locs) (hc : cells + 2 ≤ room_1.cells) (hs : slots + 12 ≤ room_1.slots) {ls : Array Slot} (hl : lv_has ls 9 [(0, .ref b), (1, .ref (ad 0)), (2, .ref (ad 21)), (3, .ref qo), (4, .ref qd), (5, .int (nI i))])
    (kk : ∀ (τ' : SZ) (fo' : Nat → Int64) (H' : Heap) (locs' : List Loc) (ls' : Array Slot), WL (B + 200) τ' → va_P D cls9 (LV ad cA qo qd (sz τ') fo' fd) H' → va_D A (LV ad cA qo qd (sz τ') fo' fd) → va_S A s.heap H' locs' → lv_has ls' 9 [(0, .ref b), (1, .ref (ad 0)), (2, .ref (ad 21)), (3, .ref qo), (4, .ref qd), (5, .int (nI i))] → W p l e room_1 s m args below meth c H' locs' (cells + 2) (slots + 12) Q (F0 m 2491 ls' [])) : W p l e room_1 s m args below meth c H locs cells slots Q (F0 m 1711 ls []) := by
  obtain ⟨hx, hb, hml, hown, hts, hK, hWX, hA, hN, hX, hbl, hbA, hl0⟩ := F
  obtain ⟨r, b', τ1, τ2, hr, hE, hm, ht, hW2, hu, hq⟩ := cal_rr (ad := ad) (cA := cA) (as' := [.inr (xs (i + 1))]) (kc_boldest hW hB (xs (i + 1))) (by simp only [List.map_cons, List.map_nil, vT1]) (by decide) (by decide)
  refine lv_aload_n hx hb (k := 1) (i := 1) (x := ad 0) (by decide +kernel) rfl (lv_at hl 1 rfl) ?_
  refine lv_aload_n hx hb (k := 0) (i := 0) (x := b) (by decide +kernel) rfl (lv_at hl 0 rfl) ?_
  refine lv_iload hx hb (i := 5) (x := nI i) (by decide +kernel) (lv_at hl 5 rfl) ?_
  refine lv_iconst hx hb (n := 1) (v := 1) (by decide +kernel) rfl ?_
  refine lv_iadd hx hb (x := nI i) (y := 1) (by decide +kernel) ?_
  rw [ia1]
  refine va_sld hx hb hX hbl hbA hS (vp_in_nI (n := i + 1) (by omega) (by omega)) (by decide +kernel) ?_
  rw [nI_clamp (show i + 1 < 2 ^ 31 by omega)]
  refine lv_aload_n hx hb (k := 3) (i := 3) (x := qo) (by decide +kernel) rfl (lv_at hl 3 rfl) ?_
  refine lm_call (own := RL) (x := 207) (n := 3) (rest := []) (w_boldest (a1 := xs (i + 1)) (fo := fo) (qo := qo) (X := [(qd, .inl (cA 3, 1, .inr (.inr (.inr (.inl fd)))))]) hl0 hr hE) hx hts hb hown hP hD hK hWX hA hN hS (hl.1.trans hml.symm) (lz 124 rfl) (lz 125 rfl) (lz 126 rfl) (lz 3 rfl) ⟨by decide, by decide, by decide +kernel⟩ rfl ⟨by decide, by decide, hc, hs⟩ (by decide) (by decide +kernel) rfl (fun k W' hG H locs hP hD hS => ?_)
  obtain ⟨fo', rfl, hk, hv⟩ := hu _ _ _ _ _ hG
  refine lv_istore hx hb (i := 6) (lv' := [(6, .int k), (0, .ref b), (1, .ref (ad 0)), (2, .ref (ad 21)), (3, .ref qo), (4, .ref qd), (5, .int (nI i))]) (by decide +kernel) hl (by decide) rfl (fun ls hl => ?_)
  refine lv_aload_n hx hb (k := 2) (i := 2) (x := ad 21) (by decide +kernel) rfl (lv_at hl 3 rfl) ?_
  refine lv_aload_n hx hb (k := 0) (i := 0) (x := b) (by decide +kernel) rfl (lv_at hl 1 rfl) ?_
  refine lv_iload hx hb (i := 5) (x := nI i) (by decide +kernel) (lv_at hl 6 rfl) ?_
  refine lv_iconst hx hb (n := 1) (v := 1) (by decide +kernel) rfl ?_
  refine lv_iadd hx hb (x := nI i) (y := 1) (by decide +kernel) ?_
  rw [ia1]
  refine va_sld hx hb hX hbl hbA hS (vp_in_nI (n := i + 1) (by omega) (by omega)) (by decide +kernel) ?_
  rw [nI_clamp (show i + 1 < 2 ^ 31 by omega)]
  refine lcall (d := 12) (j := m8_boldest) (a := 21) (as := [.inr (xs (i + 1))]) (X := [(qo, .inl (cA 2, 1, .inr (.inl fo'))), (qd, .inl (cA 3, 1, .inr (.inr (.inr (.inl fd)))))]) (own := RL) (x := 209) (rest := []) hl0 hm (by decide) rfl rfl hx hts hb hown hP hD hK hWX hA hS (hl.1.trans hml.symm) (lz 127 rfl) (lz 128 rfl) (lz 129 rfl) ⟨by decide, by decide, r0 rfl hc, r6 rfl hs⟩ (by decide) (by decide +kernel) rfl (fun E τ e => by cases e) (fun v τ e H locs hP hS => ?_)
  cases e
  have hD := wOX_D (τ := sz τ2) hD
  refine W.widen (k := cells + 2) (n := slots + 12) (w0 rfl) (w6 rfl) ?_
  refine W.eq (g2 := F0 m 1734 ls [.int b']) rfl ?_
  refine lv_istore hx hb (i := 7) (lv' := [(7, .int b'), (6, .int k), (0, .ref b), (1, .ref (ad 0)), (2, .ref (ad 21)), (3, .ref qo), (4, .ref qd), (5, .int (nI i))]) (by decide +kernel) hl (by decide) rfl (fun ls hl => ?_)
  refine lv_aload_n hx hb (k := 2) (i := 2) (x := ad 21) (by decide +kernel) rfl (lv_at hl 4 rfl) ?_
  refine lcall (d := 12) (j := m8_thrown) (a := 21) (as := []) (X := [(qo, .inl (cA 2, 1, .inr (.inl fo'))), (qd, .inl (cA 3, 1, .inr (.inr (.inr (.inl fd)))))]) (own := RL) (x := 140) (rest := []) hl0 ht (by decide) rfl rfl hx hts hb hown hP hD hK hWX hA hS (hl.1.trans hml.symm) (lz 7 rfl) (lz 8 rfl) (lz 9 rfl) ⟨by decide, by decide, r0 rfl hc, r6 rfl hs⟩ (by decide) (by decide +kernel) rfl (fun E τ e => by cases e) (fun v τ e H locs hP hS => ?_)
  cases e
  have hD := wOX_D (τ := sz τ2) hD
  refine W.widen (k := cells + 2) (n := slots + 12) (w0 rfl) (w6 rfl) ?_
  refine W.eq (g2 := F0 m 1740 ls [.int (iI (τ2 21 7))]) rfl ?_
  refine lv_iload hx hb (i := 6) (x := k) (by decide +kernel) (lv_at hl 1 rfl) ?_
  refine lv_icmp_eq hx hb (off := 5) (tgt := 1747) (by decide +kernel) (by decide) (fun _ => ?_) (fun h => absurd hk h)
  refine lv_iload hx hb (i := 6) (x := k) (by decide +kernel) (lv_at hl 1 rfl) ?_
  have fin : ∀ pc9 : Nat, pc9 = 1764 → W p l e room_1 s m args below meth c H locs (cells + 2) (slots + 12) Q (F0 m pc9 ls []) := by
    rintro _ rfl
    refine lv_goto hx hb (off := 727) (tgt := 2491) (by decide +kernel) (by decide) ?_
    exact kk τ2 fo' _ _ _ hW2 hP hD hS (lv_sub hl [2, 3, 4, 5, 6, 7] rfl)
  refine lv_if_ne hx hb (off := 15) (tgt := 1764) (by decide +kernel) (by decide) (fun _ => fin _ rfl) (fun hk0 => ?_)
  refine lv_aload_n hx hb (k := 3) (i := 3) (x := qo) (by decide +kernel) rfl (lv_at hl 5 rfl) ?_
  refine lv_iconst hx hb (n := 0) (v := 0) (by decide +kernel) rfl ?_
  refine va_lald hx hb hK hP (31 + 0) 2 (wOX_get (j := 0) rfl) rfl vp01 (by decide +kernel) ?_
  refine lv_iload hx hb (i := 7) (x := b') (by decide +kernel) (lv_at hl 0 rfl) ?_
  refine lv_i2l hx hb (by decide +kernel) rfl ?_
  refine W.lcmp hx hb (by decide +kernel) ?_
  refine lv_if_eq hx hb (off := 5) (tgt := 1764) (by decide +kernel) (by decide) (fun _ => fin _ rfl) (fun h => absurd (gcmp (hv hk0)) h)
theorem cs_farthest (F : LF D A ad adV cA p l s m args c b L xs) {B : Int} {τ : SZ} (hW : WL B τ) (hB : B + 400 ≤ 100000000) {i : Nat} (hi : i + 5 ≤ L) (hL : L ≤ 2560) {qo qd : Nat} {fo : Nat → Int64} {fd : Nat → UInt64} (hP : va_P D cls9 (LV ad cA qo qd (sz τ) fo fd) H) (hD : va_D A (LV ad cA qo qd (sz τ) fo fd)) (hS : va_S A s.heap H locs) (hc : cells + 2 ≤ room_1.cells) (hs : slots + 12 ≤ room_1.slots) {ls : Array Slot} (hl : lv_has ls 9 [(0, .ref b), (1, .ref (ad 0)), (2, .ref (ad 21)), (3, .ref qo), (4, .ref qd), (5, .int (nI i))])
    (kk : ∀ (τ' : SZ) (fo' : Nat → Int64) (H' : Heap) (locs' : List Loc) (ls' : Array Slot), WL (B + 200) τ' → va_P D cls9 (LV ad cA qo qd (sz τ') fo' fd) H' → va_D A (LV ad cA qo qd (sz τ') fo' fd) → va_S A s.heap H' locs' → lv_has ls' 9 [(0, .ref b), (1, .ref (ad 0)), (2, .ref (ad 21)), (3, .ref qo), (4, .ref qd), (5, .int (nI i))] → W p l e room_1 s m args below meth c H' locs' (cells + 2) (slots + 12) Q (F0 m 2491 ls' [])) : W p l e room_1 s m args below meth c H locs cells slots Q (F0 m 1767 ls []) := by
  obtain ⟨hx, hb, hml, hown, hts, hK, hWX, hA, hN, hX, hbl, hbA, hl0⟩ := F
  obtain ⟨r, b', τ1, τ2, hr, hE, hm, ht, hW2, hu, hq⟩ := cal_rr (ad := ad) (cA := cA) (as' := [.inr (xs (i + 1))]) (kc_farthest hW hB (xs (i + 1))) (by simp only [List.map_cons, List.map_nil, vT1]) (by decide) (by decide)
  refine lv_aload_n hx hb (k := 1) (i := 1) (x := ad 0) (by decide +kernel) rfl (lv_at hl 1 rfl) ?_
  refine lv_aload_n hx hb (k := 0) (i := 0) (x := b) (by decide +kernel) rfl (lv_at hl 0 rfl) ?_
  refine lv_iload hx hb (i := 5) (x := nI i) (by decide +kernel) (lv_at hl 5 rfl) ?_
  refine lv_iconst hx hb (n := 1) (v := 1) (by decide +kernel) rfl ?_
  refine lv_iadd hx hb (x := nI i) (y := 1) (by decide +kernel) ?_
  rw [ia1]
  refine va_sld hx hb hX hbl hbA hS (vp_in_nI (n := i + 1) (by omega) (by omega)) (by decide +kernel) ?_
  rw [nI_clamp (show i + 1 < 2 ^ 31 by omega)]
  refine lv_aload_n hx hb (k := 3) (i := 3) (x := qo) (by decide +kernel) rfl (lv_at hl 3 rfl) ?_
  refine lm_call (own := RL) (x := 210) (n := 3) (rest := []) (w_farthest (a1 := xs (i + 1)) (fo := fo) (qo := qo) (X := [(qd, .inl (cA 3, 1, .inr (.inr (.inr (.inl fd)))))]) hl0 hr hE) hx hts hb hown hP hD hK hWX hA hN hS (hl.1.trans hml.symm) (lz 130 rfl) (lz 131 rfl) (lz 132 rfl) (lz 3 rfl) ⟨by decide, by decide, by decide +kernel⟩ rfl ⟨by decide, by decide, hc, hs⟩ (by decide) (by decide +kernel) rfl (fun k W' hG H locs hP hD hS => ?_)
  obtain ⟨fo', rfl, hk, hv⟩ := hu _ _ _ _ _ hG
  refine lv_istore hx hb (i := 6) (lv' := [(6, .int k), (0, .ref b), (1, .ref (ad 0)), (2, .ref (ad 21)), (3, .ref qo), (4, .ref qd), (5, .int (nI i))]) (by decide +kernel) hl (by decide) rfl (fun ls hl => ?_)
  refine lv_aload_n hx hb (k := 2) (i := 2) (x := ad 21) (by decide +kernel) rfl (lv_at hl 3 rfl) ?_
  refine lv_aload_n hx hb (k := 0) (i := 0) (x := b) (by decide +kernel) rfl (lv_at hl 1 rfl) ?_
  refine lv_iload hx hb (i := 5) (x := nI i) (by decide +kernel) (lv_at hl 6 rfl) ?_
  refine lv_iconst hx hb (n := 1) (v := 1) (by decide +kernel) rfl ?_
  refine lv_iadd hx hb (x := nI i) (y := 1) (by decide +kernel) ?_
  rw [ia1]
  refine va_sld hx hb hX hbl hbA hS (vp_in_nI (n := i + 1) (by omega) (by omega)) (by decide +kernel) ?_
  rw [nI_clamp (show i + 1 < 2 ^ 31 by omega)]
  refine lcall (d := 12) (j := m8_farthest) (a := 21) (as := [.inr (xs (i + 1))]) (X := [(qo, .inl (cA 2, 1, .inr (.inl fo'))), (qd, .inl (cA 3, 1, .inr (.inr (.inr (.inl fd)))))]) (own := RL) (x := 212) (rest := []) hl0 hm (by decide) rfl rfl hx hts hb hown hP hD hK hWX hA hS (hl.1.trans hml.symm) (lz 133 rfl) (lz 134 rfl) (lz 135 rfl) ⟨by decide, by decide, r0 rfl hc, r6 rfl hs⟩ (by decide) (by decide +kernel) rfl (fun E τ e => by cases e) (fun v τ e H locs hP hS => ?_)
  cases e
  have hD := wOX_D (τ := sz τ2) hD
  refine W.widen (k := cells + 2) (n := slots + 12) (w0 rfl) (w6 rfl) ?_
  refine W.eq (g2 := F0 m 1790 ls [.int b']) rfl ?_
  refine lv_istore hx hb (i := 7) (lv' := [(7, .int b'), (6, .int k), (0, .ref b), (1, .ref (ad 0)), (2, .ref (ad 21)), (3, .ref qo), (4, .ref qd), (5, .int (nI i))]) (by decide +kernel) hl (by decide) rfl (fun ls hl => ?_)
  refine lv_aload_n hx hb (k := 2) (i := 2) (x := ad 21) (by decide +kernel) rfl (lv_at hl 4 rfl) ?_
  refine lcall (d := 12) (j := m8_thrown) (a := 21) (as := []) (X := [(qo, .inl (cA 2, 1, .inr (.inl fo'))), (qd, .inl (cA 3, 1, .inr (.inr (.inr (.inl fd)))))]) (own := RL) (x := 140) (rest := []) hl0 ht (by decide) rfl rfl hx hts hb hown hP hD hK hWX hA hS (hl.1.trans hml.symm) (lz 7 rfl) (lz 8 rfl) (lz 9 rfl) ⟨by decide, by decide, r0 rfl hc, r6 rfl hs⟩ (by decide) (by decide +kernel) rfl (fun E τ e => by cases e) (fun v τ e H locs hP hS => ?_)
  cases e
  have hD := wOX_D (τ := sz τ2) hD
  refine W.widen (k := cells + 2) (n := slots + 12) (w0 rfl) (w6 rfl) ?_
  refine W.eq (g2 := F0 m 1796 ls [.int (iI (τ2 21 7))]) rfl ?_
  refine lv_iload hx hb (i := 6) (x := k) (by decide +kernel) (lv_at hl 1 rfl) ?_
  refine lv_icmp_eq hx hb (off := 5) (tgt := 1803) (by decide +kernel) (by decide) (fun _ => ?_) (fun h => absurd hk h)
  refine lv_iload hx hb (i := 6) (x := k) (by decide +kernel) (lv_at hl 1 rfl) ?_
  have fin : ∀ pc9 : Nat, pc9 = 1820 → W p l e room_1 s m args below meth c H locs (cells + 2) (slots + 12) Q (F0 m pc9 ls []) := by
    rintro _ rfl
    refine lv_goto hx hb (off := 671) (tgt := 2491) (by decide +kernel) (by decide) ?_
    exact kk τ2 fo' _ _ _ hW2 hP hD hS (lv_sub hl [2, 3, 4, 5, 6, 7] rfl)
  refine lv_if_ne hx hb (off := 15) (tgt := 1820) (by decide +kernel) (by decide) (fun _ => fin _ rfl) (fun hk0 => ?_)
  refine lv_aload_n hx hb (k := 3) (i := 3) (x := qo) (by decide +kernel) rfl (lv_at hl 5 rfl) ?_
  refine lv_iconst hx hb (n := 0) (v := 0) (by decide +kernel) rfl ?_
  refine va_lald hx hb hK hP (31 + 0) 2 (wOX_get (j := 0) rfl) rfl vp01 (by decide +kernel) ?_
  refine lv_iload hx hb (i := 7) (x := b') (by decide +kernel) (lv_at hl 0 rfl) ?_
  refine lv_i2l hx hb (by decide +kernel) rfl ?_
  refine W.lcmp hx hb (by decide +kernel) ?_
  refine lv_if_eq hx hb (off := 5) (tgt := 1820) (by decide +kernel) (by decide) (fun _ => fin _ rfl) (fun h => absurd (gcmp (hv hk0)) h)
theorem cs_riverLine (F : LF D A ad adV cA p l s m args c b L xs) {B : Int} {τ : SZ} (hW : WL B τ) (hB : B + 400 ≤ 100000000) {i : Nat} (hi : i + 5 ≤ L) (hL : L ≤ 2560) {qo qd : Nat} {fo : Nat → Int64} {fd : Nat → UInt64} (hP : va_P D cls9 (LV ad cA qo qd (sz τ) fo fd) H) (hD : va_D A (LV ad cA qo qd (sz τ) fo fd)) (hS : va_S A s.heap H locs) (hc : cells + 2 ≤ room_1.cells) (hs : slots + 12 ≤ room_1.slots) {ls : Array Slot} (hl : lv_has ls 9 [(0, .ref b), (1, .ref (ad 0)), (2, .ref (ad 21)), (3, .ref qo), (4, .ref qd), (5, .int (nI i))])
    (kk : ∀ (τ' : SZ) (fo' : Nat → Int64) (H' : Heap) (locs' : List Loc) (ls' : Array Slot), WL (B + 200) τ' → va_P D cls9 (LV ad cA qo qd (sz τ') fo' fd) H' → va_D A (LV ad cA qo qd (sz τ') fo' fd) → va_S A s.heap H' locs' → lv_has ls' 9 [(0, .ref b), (1, .ref (ad 0)), (2, .ref (ad 21)), (3, .ref qo), (4, .ref qd), (5, .int (nI i))] → W p l e room_1 s m args below meth c H' locs' (cells + 2) (slots + 12) Q (F0 m 2491 ls' [])) : W p l e room_1 s m args below meth c H locs cells slots Q (F0 m 1823 ls []) := by
  obtain ⟨hx, hb, hml, hown, hts, hK, hWX, hA, hN, hX, hbl, hbA, hl0⟩ := F
  obtain ⟨r, b', τ1, τ2, hr, hE, hm, ht, hW2, hu, hq⟩ := cal_rr (ad := ad) (cA := cA) (as' := [.inr (xs (i + 1))]) (kc_riverLine hW hB (xs (i + 1))) (by simp only [List.map_cons, List.map_nil, vT1]) (by decide) (by decide)
  refine lv_aload_n hx hb (k := 1) (i := 1) (x := ad 0) (by decide +kernel) rfl (lv_at hl 1 rfl) ?_
  refine lv_aload_n hx hb (k := 0) (i := 0) (x := b) (by decide +kernel) rfl (lv_at hl 0 rfl) ?_
  refine lv_iload hx hb (i := 5) (x := nI i) (by decide +kernel) (lv_at hl 5 rfl) ?_
  refine lv_iconst hx hb (n := 1) (v := 1) (by decide +kernel) rfl ?_
  refine lv_iadd hx hb (x := nI i) (y := 1) (by decide +kernel) ?_
  rw [ia1]
  refine va_sld hx hb hX hbl hbA hS (vp_in_nI (n := i + 1) (by omega) (by omega)) (by decide +kernel) ?_
  rw [nI_clamp (show i + 1 < 2 ^ 31 by omega)]
  refine lv_aload_n hx hb (k := 3) (i := 3) (x := qo) (by decide +kernel) rfl (lv_at hl 3 rfl) ?_
  refine lm_call (own := RL) (x := 213) (n := 3) (rest := []) (w_riverLine (a1 := xs (i + 1)) (fo := fo) (qo := qo) (X := [(qd, .inl (cA 3, 1, .inr (.inr (.inr (.inl fd)))))]) hl0 hr hE) hx hts hb hown hP hD hK hWX hA hN hS (hl.1.trans hml.symm) (lz 136 rfl) (lz 137 rfl) (lz 138 rfl) (lz 3 rfl) ⟨by decide, by decide, by decide +kernel⟩ rfl ⟨by decide, by decide, hc, hs⟩ (by decide) (by decide +kernel) rfl (fun k W' hG H locs hP hD hS => ?_)
  obtain ⟨fo', rfl, hk, hv⟩ := hu _ _ _ _ _ hG
  refine lv_istore hx hb (i := 6) (lv' := [(6, .int k), (0, .ref b), (1, .ref (ad 0)), (2, .ref (ad 21)), (3, .ref qo), (4, .ref qd), (5, .int (nI i))]) (by decide +kernel) hl (by decide) rfl (fun ls hl => ?_)
  refine lv_aload_n hx hb (k := 2) (i := 2) (x := ad 21) (by decide +kernel) rfl (lv_at hl 3 rfl) ?_
  refine lv_aload_n hx hb (k := 0) (i := 0) (x := b) (by decide +kernel) rfl (lv_at hl 1 rfl) ?_
  refine lv_iload hx hb (i := 5) (x := nI i) (by decide +kernel) (lv_at hl 6 rfl) ?_
  refine lv_iconst hx hb (n := 1) (v := 1) (by decide +kernel) rfl ?_
  refine lv_iadd hx hb (x := nI i) (y := 1) (by decide +kernel) ?_
  rw [ia1]
  refine va_sld hx hb hX hbl hbA hS (vp_in_nI (n := i + 1) (by omega) (by omega)) (by decide +kernel) ?_
  rw [nI_clamp (show i + 1 < 2 ^ 31 by omega)]
  refine lcall (d := 12) (j := m8_riverLine) (a := 21) (as := [.inr (xs (i + 1))]) (X := [(qo, .inl (cA 2, 1, .inr (.inl fo'))), (qd, .inl (cA 3, 1, .inr (.inr (.inr (.inl fd)))))]) (own := RL) (x := 215) (rest := []) hl0 hm (by decide) rfl rfl hx hts hb hown hP hD hK hWX hA hS (hl.1.trans hml.symm) (lz 139 rfl) (lz 140 rfl) (lz 141 rfl) ⟨by decide, by decide, r0 rfl hc, r6 rfl hs⟩ (by decide) (by decide +kernel) rfl (fun E τ e => by cases e) (fun v τ e H locs hP hS => ?_)
  cases e
  have hD := wOX_D (τ := sz τ2) hD
  refine W.widen (k := cells + 2) (n := slots + 12) (w0 rfl) (w6 rfl) ?_
  refine W.eq (g2 := F0 m 1846 ls [.int b']) rfl ?_
  refine lv_istore hx hb (i := 7) (lv' := [(7, .int b'), (6, .int k), (0, .ref b), (1, .ref (ad 0)), (2, .ref (ad 21)), (3, .ref qo), (4, .ref qd), (5, .int (nI i))]) (by decide +kernel) hl (by decide) rfl (fun ls hl => ?_)
  refine lv_aload_n hx hb (k := 2) (i := 2) (x := ad 21) (by decide +kernel) rfl (lv_at hl 4 rfl) ?_
  refine lcall (d := 12) (j := m8_thrown) (a := 21) (as := []) (X := [(qo, .inl (cA 2, 1, .inr (.inl fo'))), (qd, .inl (cA 3, 1, .inr (.inr (.inr (.inl fd)))))]) (own := RL) (x := 140) (rest := []) hl0 ht (by decide) rfl rfl hx hts hb hown hP hD hK hWX hA hS (hl.1.trans hml.symm) (lz 7 rfl) (lz 8 rfl) (lz 9 rfl) ⟨by decide, by decide, r0 rfl hc, r6 rfl hs⟩ (by decide) (by decide +kernel) rfl (fun E τ e => by cases e) (fun v τ e H locs hP hS => ?_)
  cases e
  have hD := wOX_D (τ := sz τ2) hD
  refine W.widen (k := cells + 2) (n := slots + 12) (w0 rfl) (w6 rfl) ?_
  refine W.eq (g2 := F0 m 1852 ls [.int (iI (τ2 21 7))]) rfl ?_
  refine lv_iload hx hb (i := 6) (x := k) (by decide +kernel) (lv_at hl 1 rfl) ?_
  refine lv_icmp_eq hx hb (off := 5) (tgt := 1859) (by decide +kernel) (by decide) (fun _ => ?_) (fun h => absurd hk h)
  refine lv_iload hx hb (i := 6) (x := k) (by decide +kernel) (lv_at hl 1 rfl) ?_
  have fin : ∀ pc9 : Nat, pc9 = 1876 → W p l e room_1 s m args below meth c H locs (cells + 2) (slots + 12) Q (F0 m pc9 ls []) := by
    rintro _ rfl
    refine lv_goto hx hb (off := 615) (tgt := 2491) (by decide +kernel) (by decide) ?_
    exact kk τ2 fo' _ _ _ hW2 hP hD hS (lv_sub hl [2, 3, 4, 5, 6, 7] rfl)
  refine lv_if_ne hx hb (off := 15) (tgt := 1876) (by decide +kernel) (by decide) (fun _ => fin _ rfl) (fun hk0 => ?_)
  refine lv_aload_n hx hb (k := 3) (i := 3) (x := qo) (by decide +kernel) rfl (lv_at hl 5 rfl) ?_
  refine lv_iconst hx hb (n := 0) (v := 0) (by decide +kernel) rfl ?_
  refine va_lald hx hb hK hP (31 + 0) 2 (wOX_get (j := 0) rfl) rfl vp01 (by decide +kernel) ?_
  refine lv_iload hx hb (i := 7) (x := b') (by decide +kernel) (lv_at hl 0 rfl) ?_
  refine lv_i2l hx hb (by decide +kernel) rfl ?_
  refine W.lcmp hx hb (by decide +kernel) ?_
  refine lv_if_eq hx hb (off := 5) (tgt := 1876) (by decide +kernel) (by decide) (fun _ => fin _ rfl) (fun h => absurd (gcmp (hv hk0)) h)
theorem cs_ferryLine (F : LF D A ad adV cA p l s m args c b L xs) {B : Int} {τ : SZ} (hW : WL B τ) (hB : B + 400 ≤ 100000000) {i : Nat} (hi : i + 5 ≤ L) (hL : L ≤ 2560) {qo qd : Nat} {fo : Nat → Int64} {fd : Nat → UInt64} (hP : va_P D cls9 (LV ad cA qo qd (sz τ) fo fd) H) (hD : va_D A (LV ad cA qo qd (sz τ) fo fd)) (hS : va_S A s.heap H locs) (hc : cells + 2 ≤ room_1.cells) (hs : slots + 12 ≤ room_1.slots) {ls : Array Slot} (hl : lv_has ls 9 [(0, .ref b), (1, .ref (ad 0)), (2, .ref (ad 21)), (3, .ref qo), (4, .ref qd), (5, .int (nI i))])
    (kk : ∀ (τ' : SZ) (fo' : Nat → Int64) (H' : Heap) (locs' : List Loc) (ls' : Array Slot), WL (B + 200) τ' → va_P D cls9 (LV ad cA qo qd (sz τ') fo' fd) H' → va_D A (LV ad cA qo qd (sz τ') fo' fd) → va_S A s.heap H' locs' → lv_has ls' 9 [(0, .ref b), (1, .ref (ad 0)), (2, .ref (ad 21)), (3, .ref qo), (4, .ref qd), (5, .int (nI i))] → W p l e room_1 s m args below meth c H' locs' (cells + 2) (slots + 12) Q (F0 m 2491 ls' [])) : W p l e room_1 s m args below meth c H locs cells slots Q (F0 m 1879 ls []) := by
  obtain ⟨hx, hb, hml, hown, hts, hK, hWX, hA, hN, hX, hbl, hbA, hl0⟩ := F
  obtain ⟨r, b', τ1, τ2, hr, hE, hm, ht, hW2, hu, hq⟩ := cal_rr (ad := ad) (cA := cA) (as' := [.inr (xs (i + 1))]) (kc_ferryLine hW hB (xs (i + 1))) (by simp only [List.map_cons, List.map_nil, vT1]) (by decide) (by decide)
  refine lv_aload_n hx hb (k := 1) (i := 1) (x := ad 0) (by decide +kernel) rfl (lv_at hl 1 rfl) ?_
  refine lv_aload_n hx hb (k := 0) (i := 0) (x := b) (by decide +kernel) rfl (lv_at hl 0 rfl) ?_
  refine lv_iload hx hb (i := 5) (x := nI i) (by decide +kernel) (lv_at hl 5 rfl) ?_
  refine lv_iconst hx hb (n := 1) (v := 1) (by decide +kernel) rfl ?_
  refine lv_iadd hx hb (x := nI i) (y := 1) (by decide +kernel) ?_
  rw [ia1]
  refine va_sld hx hb hX hbl hbA hS (vp_in_nI (n := i + 1) (by omega) (by omega)) (by decide +kernel) ?_
  rw [nI_clamp (show i + 1 < 2 ^ 31 by omega)]
  refine lv_aload_n hx hb (k := 3) (i := 3) (x := qo) (by decide +kernel) rfl (lv_at hl 3 rfl) ?_
  refine lm_call (own := RL) (x := 216) (n := 3) (rest := []) (w_ferryLine (a1 := xs (i + 1)) (fo := fo) (qo := qo) (X := [(qd, .inl (cA 3, 1, .inr (.inr (.inr (.inl fd)))))]) hl0 hr hE) hx hts hb hown hP hD hK hWX hA hN hS (hl.1.trans hml.symm) (lz 142 rfl) (lz 143 rfl) (lz 144 rfl) (lz 3 rfl) ⟨by decide, by decide, by decide +kernel⟩ rfl ⟨by decide, by decide, hc, hs⟩ (by decide) (by decide +kernel) rfl (fun k W' hG H locs hP hD hS => ?_)
  obtain ⟨fo', rfl, hk, hv⟩ := hu _ _ _ _ _ hG
  refine lv_istore hx hb (i := 6) (lv' := [(6, .int k), (0, .ref b), (1, .ref (ad 0)), (2, .ref (ad 21)), (3, .ref qo), (4, .ref qd), (5, .int (nI i))]) (by decide +kernel) hl (by decide) rfl (fun ls hl => ?_)
  refine lv_aload_n hx hb (k := 2) (i := 2) (x := ad 21) (by decide +kernel) rfl (lv_at hl 3 rfl) ?_
  refine lv_aload_n hx hb (k := 0) (i := 0) (x := b) (by decide +kernel) rfl (lv_at hl 1 rfl) ?_
  refine lv_iload hx hb (i := 5) (x := nI i) (by decide +kernel) (lv_at hl 6 rfl) ?_
  refine lv_iconst hx hb (n := 1) (v := 1) (by decide +kernel) rfl ?_
  refine lv_iadd hx hb (x := nI i) (y := 1) (by decide +kernel) ?_
  rw [ia1]
  refine va_sld hx hb hX hbl hbA hS (vp_in_nI (n := i + 1) (by omega) (by omega)) (by decide +kernel) ?_
  rw [nI_clamp (show i + 1 < 2 ^ 31 by omega)]
  refine lcall (d := 12) (j := m8_ferryLine) (a := 21) (as := [.inr (xs (i + 1))]) (X := [(qo, .inl (cA 2, 1, .inr (.inl fo'))), (qd, .inl (cA 3, 1, .inr (.inr (.inr (.inl fd)))))]) (own := RL) (x := 218) (rest := []) hl0 hm (by decide) rfl rfl hx hts hb hown hP hD hK hWX hA hS (hl.1.trans hml.symm) (lz 145 rfl) (lz 146 rfl) (lz 147 rfl) ⟨by decide, by decide, r0 rfl hc, r6 rfl hs⟩ (by decide) (by decide +kernel) rfl (fun E τ e => by cases e) (fun v τ e H locs hP hS => ?_)
  cases e
  have hD := wOX_D (τ := sz τ2) hD
  refine W.widen (k := cells + 2) (n := slots + 12) (w0 rfl) (w6 rfl) ?_
  refine W.eq (g2 := F0 m 1902 ls [.int b']) rfl ?_
  refine lv_istore hx hb (i := 7) (lv' := [(7, .int b'), (6, .int k), (0, .ref b), (1, .ref (ad 0)), (2, .ref (ad 21)), (3, .ref qo), (4, .ref qd), (5, .int (nI i))]) (by decide +kernel) hl (by decide) rfl (fun ls hl => ?_)
  refine lv_aload_n hx hb (k := 2) (i := 2) (x := ad 21) (by decide +kernel) rfl (lv_at hl 4 rfl) ?_
  refine lcall (d := 12) (j := m8_thrown) (a := 21) (as := []) (X := [(qo, .inl (cA 2, 1, .inr (.inl fo'))), (qd, .inl (cA 3, 1, .inr (.inr (.inr (.inl fd)))))]) (own := RL) (x := 140) (rest := []) hl0 ht (by decide) rfl rfl hx hts hb hown hP hD hK hWX hA hS (hl.1.trans hml.symm) (lz 7 rfl) (lz 8 rfl) (lz 9 rfl) ⟨by decide, by decide, r0 rfl hc, r6 rfl hs⟩ (by decide) (by decide +kernel) rfl (fun E τ e => by cases e) (fun v τ e H locs hP hS => ?_)
  cases e
  have hD := wOX_D (τ := sz τ2) hD
  refine W.widen (k := cells + 2) (n := slots + 12) (w0 rfl) (w6 rfl) ?_
  refine W.eq (g2 := F0 m 1908 ls [.int (iI (τ2 21 7))]) rfl ?_
  refine lv_iload hx hb (i := 6) (x := k) (by decide +kernel) (lv_at hl 1 rfl) ?_
  refine lv_icmp_eq hx hb (off := 5) (tgt := 1915) (by decide +kernel) (by decide) (fun _ => ?_) (fun h => absurd hk h)
  refine lv_iload hx hb (i := 6) (x := k) (by decide +kernel) (lv_at hl 1 rfl) ?_
  have fin : ∀ pc9 : Nat, pc9 = 1932 → W p l e room_1 s m args below meth c H locs (cells + 2) (slots + 12) Q (F0 m pc9 ls []) := by
    rintro _ rfl
    refine lv_goto hx hb (off := 559) (tgt := 2491) (by decide +kernel) (by decide) ?_
    exact kk τ2 fo' _ _ _ hW2 hP hD hS (lv_sub hl [2, 3, 4, 5, 6, 7] rfl)
  refine lv_if_ne hx hb (off := 15) (tgt := 1932) (by decide +kernel) (by decide) (fun _ => fin _ rfl) (fun hk0 => ?_)
  refine lv_aload_n hx hb (k := 3) (i := 3) (x := qo) (by decide +kernel) rfl (lv_at hl 5 rfl) ?_
  refine lv_iconst hx hb (n := 0) (v := 0) (by decide +kernel) rfl ?_
  refine va_lald hx hb hK hP (31 + 0) 2 (wOX_get (j := 0) rfl) rfl vp01 (by decide +kernel) ?_
  refine lv_iload hx hb (i := 7) (x := b') (by decide +kernel) (lv_at hl 0 rfl) ?_
  refine lv_i2l hx hb (by decide +kernel) rfl ?_
  refine W.lcmp hx hb (by decide +kernel) ?_
  refine lv_if_eq hx hb (off := 5) (tgt := 1932) (by decide +kernel) (by decide) (fun _ => fin _ rfl) (fun h => absurd (gcmp (hv hk0)) h)
theorem cs_character (F : LF D A ad adV cA p l s m args c b L xs) {B : Int} {τ : SZ} (hW : WL B τ) (hB : B + 400 ≤ 100000000) {i : Nat} (hi : i + 5 ≤ L) (hL : L ≤ 2560) {qo qd : Nat} {fo : Nat → Int64} {fd : Nat → UInt64} (hP : va_P D cls9 (LV ad cA qo qd (sz τ) fo fd) H) (hD : va_D A (LV ad cA qo qd (sz τ) fo fd)) (hS : va_S A s.heap H locs) (hc : cells + 2 ≤ room_1.cells) (hs : slots + 12 ≤ room_1.slots) {ls : Array Slot} (hl : lv_has ls 9 [(0, .ref b), (1, .ref (ad 0)), (2, .ref (ad 21)), (3, .ref qo), (4, .ref qd), (5, .int (nI i))])
    (kk : ∀ (τ' : SZ) (fo' : Nat → Int64) (H' : Heap) (locs' : List Loc) (ls' : Array Slot), WL (B + 200) τ' → va_P D cls9 (LV ad cA qo qd (sz τ') fo' fd) H' → va_D A (LV ad cA qo qd (sz τ') fo' fd) → va_S A s.heap H' locs' → lv_has ls' 9 [(0, .ref b), (1, .ref (ad 0)), (2, .ref (ad 21)), (3, .ref qo), (4, .ref qd), (5, .int (nI i))] → W p l e room_1 s m args below meth c H' locs' (cells + 2) (slots + 12) Q (F0 m 2491 ls' [])) : W p l e room_1 s m args below meth c H locs cells slots Q (F0 m 1935 ls []) := by
  obtain ⟨hx, hb, hml, hown, hts, hK, hWX, hA, hN, hX, hbl, hbA, hl0⟩ := F
  obtain ⟨r, b', τ1, τ2, hr, hE, hm, ht, hW2, hu, hq⟩ := cal_rr (ad := ad) (cA := cA) (as' := [.inr (xs (i + 1))]) (kc_character hW hB (xs (i + 1))) (by simp only [List.map_cons, List.map_nil, vT1]) (by decide) (by decide)
  refine lv_aload_n hx hb (k := 1) (i := 1) (x := ad 0) (by decide +kernel) rfl (lv_at hl 1 rfl) ?_
  refine lv_aload_n hx hb (k := 0) (i := 0) (x := b) (by decide +kernel) rfl (lv_at hl 0 rfl) ?_
  refine lv_iload hx hb (i := 5) (x := nI i) (by decide +kernel) (lv_at hl 5 rfl) ?_
  refine lv_iconst hx hb (n := 1) (v := 1) (by decide +kernel) rfl ?_
  refine lv_iadd hx hb (x := nI i) (y := 1) (by decide +kernel) ?_
  rw [ia1]
  refine va_sld hx hb hX hbl hbA hS (vp_in_nI (n := i + 1) (by omega) (by omega)) (by decide +kernel) ?_
  rw [nI_clamp (show i + 1 < 2 ^ 31 by omega)]
  refine lv_aload_n hx hb (k := 3) (i := 3) (x := qo) (by decide +kernel) rfl (lv_at hl 3 rfl) ?_
  refine lm_call (own := RL) (x := 219) (n := 3) (rest := []) (w_character (a1 := xs (i + 1)) (fo := fo) (qo := qo) (X := [(qd, .inl (cA 3, 1, .inr (.inr (.inr (.inl fd)))))]) hl0 hr hE) hx hts hb hown hP hD hK hWX hA hN hS (hl.1.trans hml.symm) (lz 148 rfl) (lz 149 rfl) (lz 150 rfl) (lz 3 rfl) ⟨by decide, by decide, by decide +kernel⟩ rfl ⟨by decide, by decide, hc, hs⟩ (by decide) (by decide +kernel) rfl (fun k W' hG H locs hP hD hS => ?_)
  obtain ⟨fo', rfl, hk, hv⟩ := hu _ _ _ _ _ hG
  refine lv_istore hx hb (i := 6) (lv' := [(6, .int k), (0, .ref b), (1, .ref (ad 0)), (2, .ref (ad 21)), (3, .ref qo), (4, .ref qd), (5, .int (nI i))]) (by decide +kernel) hl (by decide) rfl (fun ls hl => ?_)
  refine lv_aload_n hx hb (k := 2) (i := 2) (x := ad 21) (by decide +kernel) rfl (lv_at hl 3 rfl) ?_
  refine lv_aload_n hx hb (k := 0) (i := 0) (x := b) (by decide +kernel) rfl (lv_at hl 1 rfl) ?_
  refine lv_iload hx hb (i := 5) (x := nI i) (by decide +kernel) (lv_at hl 6 rfl) ?_
  refine lv_iconst hx hb (n := 1) (v := 1) (by decide +kernel) rfl ?_
  refine lv_iadd hx hb (x := nI i) (y := 1) (by decide +kernel) ?_
  rw [ia1]
  refine va_sld hx hb hX hbl hbA hS (vp_in_nI (n := i + 1) (by omega) (by omega)) (by decide +kernel) ?_
  rw [nI_clamp (show i + 1 < 2 ^ 31 by omega)]
  refine lcall (d := 12) (j := m8_character) (a := 21) (as := [.inr (xs (i + 1))]) (X := [(qo, .inl (cA 2, 1, .inr (.inl fo'))), (qd, .inl (cA 3, 1, .inr (.inr (.inr (.inl fd)))))]) (own := RL) (x := 221) (rest := []) hl0 hm (by decide) rfl rfl hx hts hb hown hP hD hK hWX hA hS (hl.1.trans hml.symm) (lz 151 rfl) (lz 152 rfl) (lz 153 rfl) ⟨by decide, by decide, r0 rfl hc, r6 rfl hs⟩ (by decide) (by decide +kernel) rfl (fun E τ e => by cases e) (fun v τ e H locs hP hS => ?_)
  cases e
  have hD := wOX_D (τ := sz τ2) hD
  refine W.widen (k := cells + 2) (n := slots + 12) (w0 rfl) (w6 rfl) ?_
  refine W.eq (g2 := F0 m 1958 ls [.int b']) rfl ?_
  refine lv_istore hx hb (i := 7) (lv' := [(7, .int b'), (6, .int k), (0, .ref b), (1, .ref (ad 0)), (2, .ref (ad 21)), (3, .ref qo), (4, .ref qd), (5, .int (nI i))]) (by decide +kernel) hl (by decide) rfl (fun ls hl => ?_)
  refine lv_aload_n hx hb (k := 2) (i := 2) (x := ad 21) (by decide +kernel) rfl (lv_at hl 4 rfl) ?_
  refine lcall (d := 12) (j := m8_thrown) (a := 21) (as := []) (X := [(qo, .inl (cA 2, 1, .inr (.inl fo'))), (qd, .inl (cA 3, 1, .inr (.inr (.inr (.inl fd)))))]) (own := RL) (x := 140) (rest := []) hl0 ht (by decide) rfl rfl hx hts hb hown hP hD hK hWX hA hS (hl.1.trans hml.symm) (lz 7 rfl) (lz 8 rfl) (lz 9 rfl) ⟨by decide, by decide, r0 rfl hc, r6 rfl hs⟩ (by decide) (by decide +kernel) rfl (fun E τ e => by cases e) (fun v τ e H locs hP hS => ?_)
  cases e
  have hD := wOX_D (τ := sz τ2) hD
  refine W.widen (k := cells + 2) (n := slots + 12) (w0 rfl) (w6 rfl) ?_
  refine W.eq (g2 := F0 m 1964 ls [.int (iI (τ2 21 7))]) rfl ?_
  refine lv_iload hx hb (i := 6) (x := k) (by decide +kernel) (lv_at hl 1 rfl) ?_
  refine lv_icmp_eq hx hb (off := 5) (tgt := 1971) (by decide +kernel) (by decide) (fun _ => ?_) (fun h => absurd hk h)
  refine lv_iload hx hb (i := 6) (x := k) (by decide +kernel) (lv_at hl 1 rfl) ?_
  have fin : ∀ pc9 : Nat, pc9 = 1988 → W p l e room_1 s m args below meth c H locs (cells + 2) (slots + 12) Q (F0 m pc9 ls []) := by
    rintro _ rfl
    refine lv_goto hx hb (off := 503) (tgt := 2491) (by decide +kernel) (by decide) ?_
    exact kk τ2 fo' _ _ _ hW2 hP hD hS (lv_sub hl [2, 3, 4, 5, 6, 7] rfl)
  refine lv_if_ne hx hb (off := 15) (tgt := 1988) (by decide +kernel) (by decide) (fun _ => fin _ rfl) (fun hk0 => ?_)
  refine lv_aload_n hx hb (k := 3) (i := 3) (x := qo) (by decide +kernel) rfl (lv_at hl 5 rfl) ?_
  refine lv_iconst hx hb (n := 0) (v := 0) (by decide +kernel) rfl ?_
  refine va_lald hx hb hK hP (31 + 0) 2 (wOX_get (j := 0) rfl) rfl vp01 (by decide +kernel) ?_
  refine lv_iload hx hb (i := 7) (x := b') (by decide +kernel) (lv_at hl 0 rfl) ?_
  refine lv_i2l hx hb (by decide +kernel) rfl ?_
  refine W.lcmp hx hb (by decide +kernel) ?_
  refine lv_if_eq hx hb (off := 5) (tgt := 1988) (by decide +kernel) (by decide) (fun _ => fin _ rfl) (fun h => absurd (gcmp (hv hk0)) h)
theorem cs_append (F : LF D A ad adV cA p l s m args c b L xs) {B : Int} {τ : SZ} (hW : WL B τ) (hB : B + 400 ≤ 100000000) {i : Nat} (hi : i + 5 ≤ L) (hL : L ≤ 2560) {qo qd : Nat} {fo : Nat → Int64} {fd : Nat → UInt64} (hP : va_P D cls9 (LV ad cA qo qd (sz τ) fo fd) H) (hD : va_D A (LV ad cA qo qd (sz τ) fo fd)) (hS : va_S A s.heap H locs) (hc : cells + 2 ≤ room_1.cells) (hs : slots + 12 ≤ room_1.slots) {ls : Array Slot} (hl : lv_has ls 9 [(0, .ref b), (1, .ref (ad 0)), (2, .ref (ad 21)), (3, .ref qo), (4, .ref qd), (5, .int (nI i))])
    (kk : ∀ (τ' : SZ) (fo' : Nat → Int64) (H' : Heap) (locs' : List Loc) (ls' : Array Slot), WL (B + 200) τ' → va_P D cls9 (LV ad cA qo qd (sz τ') fo' fd) H' → va_D A (LV ad cA qo qd (sz τ') fo' fd) → va_S A s.heap H' locs' → lv_has ls' 9 [(0, .ref b), (1, .ref (ad 0)), (2, .ref (ad 21)), (3, .ref qo), (4, .ref qd), (5, .int (nI i))] → W p l e room_1 s m args below meth c H' locs' (cells + 2) (slots + 12) Q (F0 m 2491 ls' [])) : W p l e room_1 s m args below meth c H locs cells slots Q (F0 m 1991 ls []) := by
  obtain ⟨hx, hb, hml, hown, hts, hK, hWX, hA, hN, hX, hbl, hbA, hl0⟩ := F
  obtain ⟨r, b', τ1, τ2, hr, hE, hm, ht, hW2, hu, hq⟩ := cal_rr (ad := ad) (cA := cA) (as' := [.inr (zC (xs (i + 1)))]) (kc_append hW hB (xs (i + 1))) (by simp only [List.map_cons, List.map_nil, vT1]) (by decide) (by decide)
  refine lv_aload_n hx hb (k := 1) (i := 1) (x := ad 0) (by decide +kernel) rfl (lv_at hl 1 rfl) ?_
  refine lv_aload_n hx hb (k := 0) (i := 0) (x := b) (by decide +kernel) rfl (lv_at hl 0 rfl) ?_
  refine lv_iload hx hb (i := 5) (x := nI i) (by decide +kernel) (lv_at hl 5 rfl) ?_
  refine lv_iconst hx hb (n := 1) (v := 1) (by decide +kernel) rfl ?_
  refine lv_iadd hx hb (x := nI i) (y := 1) (by decide +kernel) ?_
  rw [ia1]
  refine va_sld hx hb hX hbl hbA hS (vp_in_nI (n := i + 1) (by omega) (by omega)) (by decide +kernel) ?_
  rw [nI_clamp (show i + 1 < 2 ^ 31 by omega)]
  refine lv_i2c hx hb (v := zC (xs (i + 1))) (by decide +kernel) rfl ?_
  refine lv_aload_n hx hb (k := 3) (i := 3) (x := qo) (by decide +kernel) rfl (lv_at hl 3 rfl) ?_
  refine lm_call (own := RL) (x := 222) (n := 3) (rest := []) (w_append (a1 := zC (xs (i + 1))) (fo := fo) (qo := qo) (X := [(qd, .inl (cA 3, 1, .inr (.inr (.inr (.inl fd)))))]) hl0 hr hE) hx hts hb hown hP hD hK hWX hA hN hS (hl.1.trans hml.symm) (lz 154 rfl) (lz 155 rfl) (lz 156 rfl) (lz 3 rfl) ⟨by decide, by decide, by decide +kernel⟩ rfl ⟨by decide, by decide, hc, hs⟩ (by decide) (by decide +kernel) rfl (fun k W' hG H locs hP hD hS => ?_)
  obtain ⟨fo', rfl, hk, hv⟩ := hu _ _ _ _ _ hG
  refine lv_istore hx hb (i := 6) (lv' := [(6, .int k), (0, .ref b), (1, .ref (ad 0)), (2, .ref (ad 21)), (3, .ref qo), (4, .ref qd), (5, .int (nI i))]) (by decide +kernel) hl (by decide) rfl (fun ls hl => ?_)
  refine lv_aload_n hx hb (k := 2) (i := 2) (x := ad 21) (by decide +kernel) rfl (lv_at hl 3 rfl) ?_
  refine lv_aload_n hx hb (k := 0) (i := 0) (x := b) (by decide +kernel) rfl (lv_at hl 1 rfl) ?_
  refine lv_iload hx hb (i := 5) (x := nI i) (by decide +kernel) (lv_at hl 6 rfl) ?_
  refine lv_iconst hx hb (n := 1) (v := 1) (by decide +kernel) rfl ?_
  refine lv_iadd hx hb (x := nI i) (y := 1) (by decide +kernel) ?_
  rw [ia1]
  refine va_sld hx hb hX hbl hbA hS (vp_in_nI (n := i + 1) (by omega) (by omega)) (by decide +kernel) ?_
  rw [nI_clamp (show i + 1 < 2 ^ 31 by omega)]
  refine lv_i2c hx hb (v := zC (xs (i + 1))) (by decide +kernel) rfl ?_
  refine lcall (d := 12) (j := m8_append) (a := 21) (as := [.inr (zC (xs (i + 1)))]) (X := [(qo, .inl (cA 2, 1, .inr (.inl fo'))), (qd, .inl (cA 3, 1, .inr (.inr (.inr (.inl fd)))))]) (own := RL) (x := 225) (rest := []) hl0 hm (by decide) rfl rfl hx hts hb hown hP hD hK hWX hA hS (hl.1.trans hml.symm) (lz 157 rfl) (lz 158 rfl) (lz 159 rfl) ⟨by decide, by decide, r0 rfl hc, r6 rfl hs⟩ (by decide) (by decide +kernel) rfl (fun E τ e => by cases e) (fun v τ e H locs hP hS => ?_)
  cases e
  have hD := wOX_D (τ := sz τ2) hD
  refine W.widen (k := cells + 2) (n := slots + 12) (w0 rfl) (w6 rfl) ?_
  refine W.eq (g2 := F0 m 2016 ls [.int b']) rfl ?_
  refine lv_istore hx hb (i := 7) (lv' := [(7, .int b'), (6, .int k), (0, .ref b), (1, .ref (ad 0)), (2, .ref (ad 21)), (3, .ref qo), (4, .ref qd), (5, .int (nI i))]) (by decide +kernel) hl (by decide) rfl (fun ls hl => ?_)
  refine lv_aload_n hx hb (k := 2) (i := 2) (x := ad 21) (by decide +kernel) rfl (lv_at hl 4 rfl) ?_
  refine lcall (d := 12) (j := m8_thrown) (a := 21) (as := []) (X := [(qo, .inl (cA 2, 1, .inr (.inl fo'))), (qd, .inl (cA 3, 1, .inr (.inr (.inr (.inl fd)))))]) (own := RL) (x := 140) (rest := []) hl0 ht (by decide) rfl rfl hx hts hb hown hP hD hK hWX hA hS (hl.1.trans hml.symm) (lz 7 rfl) (lz 8 rfl) (lz 9 rfl) ⟨by decide, by decide, r0 rfl hc, r6 rfl hs⟩ (by decide) (by decide +kernel) rfl (fun E τ e => by cases e) (fun v τ e H locs hP hS => ?_)
  cases e
  have hD := wOX_D (τ := sz τ2) hD
  refine W.widen (k := cells + 2) (n := slots + 12) (w0 rfl) (w6 rfl) ?_
  refine W.eq (g2 := F0 m 2022 ls [.int (iI (τ2 21 7))]) rfl ?_
  refine lv_iload hx hb (i := 6) (x := k) (by decide +kernel) (lv_at hl 1 rfl) ?_
  refine lv_icmp_eq hx hb (off := 5) (tgt := 2029) (by decide +kernel) (by decide) (fun _ => ?_) (fun h => absurd hk h)
  refine lv_iload hx hb (i := 6) (x := k) (by decide +kernel) (lv_at hl 1 rfl) ?_
  have fin : ∀ pc9 : Nat, pc9 = 2046 → W p l e room_1 s m args below meth c H locs (cells + 2) (slots + 12) Q (F0 m pc9 ls []) := by
    rintro _ rfl
    refine lv_goto hx hb (off := 445) (tgt := 2491) (by decide +kernel) (by decide) ?_
    exact kk τ2 fo' _ _ _ hW2 hP hD hS (lv_sub hl [2, 3, 4, 5, 6, 7] rfl)
  refine lv_if_ne hx hb (off := 15) (tgt := 2046) (by decide +kernel) (by decide) (fun _ => fin _ rfl) (fun hk0 => ?_)
  refine lv_aload_n hx hb (k := 3) (i := 3) (x := qo) (by decide +kernel) rfl (lv_at hl 5 rfl) ?_
  refine lv_iconst hx hb (n := 0) (v := 0) (by decide +kernel) rfl ?_
  refine va_lald hx hb hK hP (31 + 0) 2 (wOX_get (j := 0) rfl) rfl vp01 (by decide +kernel) ?_
  refine lv_iload hx hb (i := 7) (x := b') (by decide +kernel) (lv_at hl 0 rfl) ?_
  refine lv_i2l hx hb (by decide +kernel) rfl ?_
  refine W.lcmp hx hb (by decide +kernel) ?_
  refine lv_if_eq hx hb (off := 5) (tgt := 2046) (by decide +kernel) (by decide) (fun _ => fin _ rfl) (fun h => absurd (gcmp (hv hk0)) h)
theorem cs_run (F : LF D A ad adV cA p l s m args c b L xs) {B : Int} {τ : SZ} (hW : WL B τ) (hB : B + 400 ≤ 100000000) {i : Nat} (hi : i + 5 ≤ L) (hL : L ≤ 2560) {qo qd : Nat} {fo : Nat → Int64} {fd : Nat → UInt64} (hP : va_P D cls9 (LV ad cA qo qd (sz τ) fo fd) H) (hD : va_D A (LV ad cA qo qd (sz τ) fo fd)) (hS : va_S A s.heap H locs) (hc : cells + 2 ≤ room_1.cells) (hs : slots + 12 ≤ room_1.slots) {ls : Array Slot} (hl : lv_has ls 9 [(0, .ref b), (1, .ref (ad 0)), (2, .ref (ad 21)), (3, .ref qo), (4, .ref qd), (5, .int (nI i))])
    (kk : ∀ (τ' : SZ) (fo' : Nat → Int64) (H' : Heap) (locs' : List Loc) (ls' : Array Slot), WL (B + 200) τ' → va_P D cls9 (LV ad cA qo qd (sz τ') fo' fd) H' → va_D A (LV ad cA qo qd (sz τ') fo' fd) → va_S A s.heap H' locs' → lv_has ls' 9 [(0, .ref b), (1, .ref (ad 0)), (2, .ref (ad 21)), (3, .ref qo), (4, .ref qd), (5, .int (nI i))] → W p l e room_1 s m args below meth c H' locs' (cells + 2) (slots + 12) Q (F0 m 2491 ls' [])) : W p l e room_1 s m args below meth c H locs cells slots Q (F0 m 2049 ls []) := by
  obtain ⟨hx, hb, hml, hown, hts, hK, hWX, hA, hN, hX, hbl, hbA, hl0⟩ := F
  obtain ⟨r, b', τ1, τ2, hr, hE, hm, ht, hW2, hu, hq⟩ := cal_rr (ad := ad) (cA := cA) (as' := []) (kc_run hW hB) (by simp only [List.map_cons, List.map_nil, vT1]) (by decide) (by decide)
  refine lv_aload_n hx hb (k := 1) (i := 1) (x := ad 0) (by decide +kernel) rfl (lv_at hl 1 rfl) ?_
  refine lv_aload_n hx hb (k := 3) (i := 3) (x := qo) (by decide +kernel) rfl (lv_at hl 3 rfl) ?_
  refine lm_call (own := RL) (x := 226) (n := 2) (rest := []) (w_run (fo := fo) (qo := qo) (X := [(qd, .inl (cA 3, 1, .inr (.inr (.inr (.inl fd)))))]) hl0 hr hE) hx hts hb hown hP hD hK hWX hA hN hS (hl.1.trans hml.symm) (lz 160 rfl) (lz 161 rfl) (lz 162 rfl) (lz 3 rfl) ⟨by decide, by decide, by decide +kernel⟩ rfl ⟨by decide, by decide, hc, hs⟩ (by decide) (by decide +kernel) rfl (fun k W' hG H locs hP hD hS => ?_)
  obtain ⟨fo', rfl, hk, hv⟩ := hu _ _ _ _ _ hG
  refine lv_istore hx hb (i := 6) (lv' := [(6, .int k), (0, .ref b), (1, .ref (ad 0)), (2, .ref (ad 21)), (3, .ref qo), (4, .ref qd), (5, .int (nI i))]) (by decide +kernel) hl (by decide) rfl (fun ls hl => ?_)
  refine lv_aload_n hx hb (k := 2) (i := 2) (x := ad 21) (by decide +kernel) rfl (lv_at hl 3 rfl) ?_
  refine lcall (d := 12) (j := m8_run) (a := 21) (as := []) (X := [(qo, .inl (cA 2, 1, .inr (.inl fo'))), (qd, .inl (cA 3, 1, .inr (.inr (.inr (.inl fd)))))]) (own := RL) (x := 228) (rest := []) hl0 hm (by decide) rfl rfl hx hts hb hown hP hD hK hWX hA hS (hl.1.trans hml.symm) (lz 163 rfl) (lz 164 rfl) (lz 165 rfl) ⟨by decide, by decide, r0 rfl hc, r6 rfl hs⟩ (by decide) (by decide +kernel) rfl (fun E τ e => by cases e) (fun v τ e H locs hP hS => ?_)
  cases e
  have hD := wOX_D (τ := sz τ2) hD
  refine W.widen (k := cells + 2) (n := slots + 12) (w0 rfl) (w6 rfl) ?_
  refine W.eq (g2 := F0 m 2060 ls [.int b']) rfl ?_
  refine lv_istore hx hb (i := 7) (lv' := [(7, .int b'), (6, .int k), (0, .ref b), (1, .ref (ad 0)), (2, .ref (ad 21)), (3, .ref qo), (4, .ref qd), (5, .int (nI i))]) (by decide +kernel) hl (by decide) rfl (fun ls hl => ?_)
  refine lv_aload_n hx hb (k := 2) (i := 2) (x := ad 21) (by decide +kernel) rfl (lv_at hl 4 rfl) ?_
  refine lcall (d := 12) (j := m8_thrown) (a := 21) (as := []) (X := [(qo, .inl (cA 2, 1, .inr (.inl fo'))), (qd, .inl (cA 3, 1, .inr (.inr (.inr (.inl fd)))))]) (own := RL) (x := 140) (rest := []) hl0 ht (by decide) rfl rfl hx hts hb hown hP hD hK hWX hA hS (hl.1.trans hml.symm) (lz 7 rfl) (lz 8 rfl) (lz 9 rfl) ⟨by decide, by decide, r0 rfl hc, r6 rfl hs⟩ (by decide) (by decide +kernel) rfl (fun E τ e => by cases e) (fun v τ e H locs hP hS => ?_)
  cases e
  have hD := wOX_D (τ := sz τ2) hD
  refine W.widen (k := cells + 2) (n := slots + 12) (w0 rfl) (w6 rfl) ?_
  refine W.eq (g2 := F0 m 2066 ls [.int (iI (τ2 21 7))]) rfl ?_
  refine lv_iload hx hb (i := 6) (x := k) (by decide +kernel) (lv_at hl 1 rfl) ?_
  refine lv_icmp_eq hx hb (off := 5) (tgt := 2073) (by decide +kernel) (by decide) (fun _ => ?_) (fun h => absurd hk h)
  refine lv_iload hx hb (i := 6) (x := k) (by decide +kernel) (lv_at hl 1 rfl) ?_
  have fin : ∀ pc9 : Nat, pc9 = 2090 → W p l e room_1 s m args below meth c H locs (cells + 2) (slots + 12) Q (F0 m pc9 ls []) := by
    rintro _ rfl
    refine lv_goto hx hb (off := 401) (tgt := 2491) (by decide +kernel) (by decide) ?_
    exact kk τ2 fo' _ _ _ hW2 hP hD hS (lv_sub hl [2, 3, 4, 5, 6, 7] rfl)
  refine lv_if_ne hx hb (off := 15) (tgt := 2090) (by decide +kernel) (by decide) (fun _ => fin _ rfl) (fun hk0 => ?_)
  refine lv_aload_n hx hb (k := 3) (i := 3) (x := qo) (by decide +kernel) rfl (lv_at hl 5 rfl) ?_
  refine lv_iconst hx hb (n := 0) (v := 0) (by decide +kernel) rfl ?_
  refine va_lald hx hb hK hP (31 + 0) 2 (wOX_get (j := 0) rfl) rfl vp01 (by decide +kernel) ?_
  refine lv_iload hx hb (i := 7) (x := b') (by decide +kernel) (lv_at hl 0 rfl) ?_
  refine lv_i2l hx hb (by decide +kernel) rfl ?_
  refine W.lcmp hx hb (by decide +kernel) ?_
  refine lv_if_eq hx hb (off := 5) (tgt := 2090) (by decide +kernel) (by decide) (fun _ => fin _ rfl) (fun h => absurd (gcmp (hv hk0)) h)
theorem cs_errorPosition (F : LF D A ad adV cA p l s m args c b L xs) {B : Int} {τ : SZ} (hW : WL B τ) (hB : B + 400 ≤ 100000000) {i : Nat} (hi : i + 5 ≤ L) (hL : L ≤ 2560) {qo qd : Nat} {fo : Nat → Int64} {fd : Nat → UInt64} (hP : va_P D cls9 (LV ad cA qo qd (sz τ) fo fd) H) (hD : va_D A (LV ad cA qo qd (sz τ) fo fd)) (hS : va_S A s.heap H locs) (hc : cells + 2 ≤ room_1.cells) (hs : slots + 12 ≤ room_1.slots) {ls : Array Slot} (hl : lv_has ls 9 [(0, .ref b), (1, .ref (ad 0)), (2, .ref (ad 21)), (3, .ref qo), (4, .ref qd), (5, .int (nI i))])
    (kk : ∀ (τ' : SZ) (fo' : Nat → Int64) (H' : Heap) (locs' : List Loc) (ls' : Array Slot), WL (B + 200) τ' → va_P D cls9 (LV ad cA qo qd (sz τ') fo' fd) H' → va_D A (LV ad cA qo qd (sz τ') fo' fd) → va_S A s.heap H' locs' → lv_has ls' 9 [(0, .ref b), (1, .ref (ad 0)), (2, .ref (ad 21)), (3, .ref qo), (4, .ref qd), (5, .int (nI i))] → W p l e room_1 s m args below meth c H' locs' (cells + 2) (slots + 12) Q (F0 m 2491 ls' [])) : W p l e room_1 s m args below meth c H locs cells slots Q (F0 m 2093 ls []) := by
  obtain ⟨hx, hb, hml, hown, hts, hK, hWX, hA, hN, hX, hbl, hbA, hl0⟩ := F
  obtain ⟨r, b', τ1, τ2, hr, hE, hm, ht, hW2, hu, hq⟩ := cal_rr (ad := ad) (cA := cA) (as' := []) (kc_errorPosition hW hB) (by simp only [List.map_cons, List.map_nil, vT1]) (by decide) (by decide)
  obtain rfl := hq rfl
  refine lv_aload_n hx hb (k := 1) (i := 1) (x := ad 0) (by decide +kernel) rfl (lv_at hl 1 rfl) ?_
  refine lcall (d := 12) (j := m7_errorPosition) (a := 0) (as := []) (X := [(qo, .inl (cA 2, 1, .inr (.inl fo))), (qd, .inl (cA 3, 1, .inr (.inr (.inr (.inl fd)))))]) (own := RL) (x := 229) (rest := []) hl0 hr (by decide) rfl rfl hx hts hb hown hP hD hK hWX hA hS (hl.1.trans hml.symm) (lz 166 rfl) (lz 167 rfl) (lz 168 rfl) ⟨by decide, by decide, r0 rfl (Nat.le_trans (by omega) hc), r6 rfl (Nat.le_trans (by omega) hs)⟩ (by decide) (by decide +kernel) rfl (fun E τ e => by cases e) (fun v τ e H locs hP hS => ?_)
  cases e
  have hD := wOX_D (τ := τ1) hD
  refine W.widen (k := cells + 2) (n := slots + 12) (w2 rfl) (w12 rfl) ?_
  refine W.eq (g2 := F0 m 2097 ls [.int b']) rfl ?_
  refine lv_aload_n hx hb (k := 2) (i := 2) (x := ad 21) (by decide +kernel) rfl (lv_at hl 2 rfl) ?_
  refine lcall (d := 12) (j := m8_errorPosition) (a := 21) (as := []) (X := [(qo, .inl (cA 2, 1, .inr (.inl fo))), (qd, .inl (cA 3, 1, .inr (.inr (.inr (.inl fd)))))]) (own := RL) (x := 232) (rest := [.int b']) hl0 hm (by decide) rfl rfl hx hts hb hown hP hD hK hWX hA hS (hl.1.trans hml.symm) (lz 169 rfl) (lz 170 rfl) (lz 171 rfl) ⟨by decide, by decide, r0 rfl hc, r6 rfl hs⟩ (by show (1 : Nat) ≤ 8; decide) (by decide +kernel) rfl (fun E τ e => by cases e) (fun v τ e H locs hP hS => ?_)
  cases e
  have hD := wOX_D (τ := sz τ2) hD
  refine W.widen (k := cells + 2) (n := slots + 12) (w0 rfl) (w6 rfl) ?_
  refine W.eq (g2 := F0 m 2101 ls [.int b', .int b']) rfl ?_
  refine lv_icmp_eq hx hb (off := 390) (tgt := 2491) (by decide +kernel) (by decide) (fun _ => ?_) (fun h => absurd rfl h)
  exact kk τ2 fo _ _ _ hW2 hP hD hS (lv_sub hl [0, 1, 2, 3, 4, 5] rfl)
theorem cs_refusal (F : LF D A ad adV cA p l s m args c b L xs) {B : Int} {τ : SZ} (hW : WL B τ) (hB : B + 400 ≤ 100000000) {i : Nat} (hi : i + 5 ≤ L) (hL : L ≤ 2560) {qo qd : Nat} {fo : Nat → Int64} {fd : Nat → UInt64} (hP : va_P D cls9 (LV ad cA qo qd (sz τ) fo fd) H) (hD : va_D A (LV ad cA qo qd (sz τ) fo fd)) (hS : va_S A s.heap H locs) (hc : cells + 2 ≤ room_1.cells) (hs : slots + 12 ≤ room_1.slots) {ls : Array Slot} (hl : lv_has ls 9 [(0, .ref b), (1, .ref (ad 0)), (2, .ref (ad 21)), (3, .ref qo), (4, .ref qd), (5, .int (nI i))])
    (kk : ∀ (τ' : SZ) (fo' : Nat → Int64) (H' : Heap) (locs' : List Loc) (ls' : Array Slot), WL (B + 200) τ' → va_P D cls9 (LV ad cA qo qd (sz τ') fo' fd) H' → va_D A (LV ad cA qo qd (sz τ') fo' fd) → va_S A s.heap H' locs' → lv_has ls' 9 [(0, .ref b), (1, .ref (ad 0)), (2, .ref (ad 21)), (3, .ref qo), (4, .ref qd), (5, .int (nI i))] → W p l e room_1 s m args below meth c H' locs' (cells + 2) (slots + 12) Q (F0 m 2491 ls' [])) : W p l e room_1 s m args below meth c H locs cells slots Q (F0 m 2106 ls []) := by
  obtain ⟨hx, hb, hml, hown, hts, hK, hWX, hA, hN, hX, hbl, hbA, hl0⟩ := F
  obtain ⟨r, b', τ1, τ2, hr, hE, hm, ht, hW2, hu, hq⟩ := cal_rr (ad := ad) (cA := cA) (as' := [.inr (xs (i + 1)), .inr (zB (xs (i + 2)))]) (kc_refusal hW hB (xs (i + 1)) (xs (i + 2))) (by simp only [List.map_cons, List.map_nil, vT1]) (by decide) (by decide)
  refine lv_aload_n hx hb (k := 1) (i := 1) (x := ad 0) (by decide +kernel) rfl (lv_at hl 1 rfl) ?_
  refine lv_aload_n hx hb (k := 0) (i := 0) (x := b) (by decide +kernel) rfl (lv_at hl 0 rfl) ?_
  refine lv_iload hx hb (i := 5) (x := nI i) (by decide +kernel) (lv_at hl 5 rfl) ?_
  refine lv_iconst hx hb (n := 1) (v := 1) (by decide +kernel) rfl ?_
  refine lv_iadd hx hb (x := nI i) (y := 1) (by decide +kernel) ?_
  rw [ia1]
  refine va_sld hx hb hX hbl hbA hS (vp_in_nI (n := i + 1) (by omega) (by omega)) (by decide +kernel) ?_
  rw [nI_clamp (show i + 1 < 2 ^ 31 by omega)]
  refine lv_aload_n hx hb (k := 0) (i := 0) (x := b) (by decide +kernel) rfl (lv_at hl 0 rfl) ?_
  refine lv_iload hx hb (i := 5) (x := nI i) (by decide +kernel) (lv_at hl 5 rfl) ?_
  refine lv_iconst hx hb (n := 2) (v := 2) (by decide +kernel) rfl ?_
  refine lv_iadd hx hb (x := nI i) (y := 2) (by decide +kernel) ?_
  rw [ia2]
  refine va_sld hx hb hX hbl hbA hS (vp_in_nI (n := i + 2) (by omega) (by omega)) (by decide +kernel) ?_
  rw [nI_clamp (show i + 2 < 2 ^ 31 by omega)]
  refine lbool hx hb (off0 := 7) (t := 2126) (off1 := 4) (y := 2127) (by decide +kernel) (by decide) (by decide +kernel) (by decide +kernel) (by decide) (by decide +kernel) rfl ?_
  refine lv_aload_n hx hb (k := 3) (i := 3) (x := qo) (by decide +kernel) rfl (lv_at hl 3 rfl) ?_
  refine lm_call (own := RL) (x := 233) (n := 4) (rest := []) (w_refusal (a1 := xs (i + 1)) (a2 := zB (xs (i + 2))) (fo := fo) (qo := qo) (X := [(qd, .inl (cA 3, 1, .inr (.inr (.inr (.inl fd)))))]) hl0 hr hE) hx hts hb hown hP hD hK hWX hA hN hS (hl.1.trans hml.symm) (lz 172 rfl) (lz 173 rfl) (lz 174 rfl) (lz 3 rfl) ⟨by decide, by decide, by decide +kernel⟩ rfl ⟨by decide, by decide, hc, hs⟩ (by decide) (by decide +kernel) rfl (fun k W' hG H locs hP hD hS => ?_)
  obtain ⟨fo', rfl, hk, hv⟩ := hu _ _ _ _ _ hG
  refine lv_istore hx hb (i := 6) (lv' := [(6, .int k), (0, .ref b), (1, .ref (ad 0)), (2, .ref (ad 21)), (3, .ref qo), (4, .ref qd), (5, .int (nI i))]) (by decide +kernel) hl (by decide) rfl (fun ls hl => ?_)
  refine lv_aload_n hx hb (k := 2) (i := 2) (x := ad 21) (by decide +kernel) rfl (lv_at hl 3 rfl) ?_
  refine lv_aload_n hx hb (k := 0) (i := 0) (x := b) (by decide +kernel) rfl (lv_at hl 1 rfl) ?_
  refine lv_iload hx hb (i := 5) (x := nI i) (by decide +kernel) (lv_at hl 6 rfl) ?_
  refine lv_iconst hx hb (n := 1) (v := 1) (by decide +kernel) rfl ?_
  refine lv_iadd hx hb (x := nI i) (y := 1) (by decide +kernel) ?_
  rw [ia1]
  refine va_sld hx hb hX hbl hbA hS (vp_in_nI (n := i + 1) (by omega) (by omega)) (by decide +kernel) ?_
  rw [nI_clamp (show i + 1 < 2 ^ 31 by omega)]
  refine lv_aload_n hx hb (k := 0) (i := 0) (x := b) (by decide +kernel) rfl (lv_at hl 1 rfl) ?_
  refine lv_iload hx hb (i := 5) (x := nI i) (by decide +kernel) (lv_at hl 6 rfl) ?_
  refine lv_iconst hx hb (n := 2) (v := 2) (by decide +kernel) rfl ?_
  refine lv_iadd hx hb (x := nI i) (y := 2) (by decide +kernel) ?_
  rw [ia2]
  refine va_sld hx hb hX hbl hbA hS (vp_in_nI (n := i + 2) (by omega) (by omega)) (by decide +kernel) ?_
  rw [nI_clamp (show i + 2 < 2 ^ 31 by omega)]
  refine lbool hx hb (off0 := 7) (t := 2153) (off1 := 4) (y := 2154) (by decide +kernel) (by decide) (by decide +kernel) (by decide +kernel) (by decide) (by decide +kernel) rfl ?_
  refine lcall (d := 12) (j := m8_refusal) (a := 21) (as := [.inr (xs (i + 1)), .inr (zB (xs (i + 2)))]) (X := [(qo, .inl (cA 2, 1, .inr (.inl fo'))), (qd, .inl (cA 3, 1, .inr (.inr (.inr (.inl fd)))))]) (own := RL) (x := 235) (rest := []) hl0 hm (by decide) rfl rfl hx hts hb hown hP hD hK hWX hA hS (hl.1.trans hml.symm) (lz 175 rfl) (lz 176 rfl) (lz 177 rfl) ⟨by decide, by decide, r0 rfl hc, r6 rfl hs⟩ (by decide) (by decide +kernel) rfl (fun E τ e => by cases e) (fun v τ e H locs hP hS => ?_)
  cases e
  have hD := wOX_D (τ := sz τ2) hD
  refine W.widen (k := cells + 2) (n := slots + 12) (w0 rfl) (w6 rfl) ?_
  refine W.eq (g2 := F0 m 2157 ls [.int b']) rfl ?_
  refine lv_istore hx hb (i := 7) (lv' := [(7, .int b'), (6, .int k), (0, .ref b), (1, .ref (ad 0)), (2, .ref (ad 21)), (3, .ref qo), (4, .ref qd), (5, .int (nI i))]) (by decide +kernel) hl (by decide) rfl (fun ls hl => ?_)
  refine lv_aload_n hx hb (k := 2) (i := 2) (x := ad 21) (by decide +kernel) rfl (lv_at hl 4 rfl) ?_
  refine lcall (d := 12) (j := m8_thrown) (a := 21) (as := []) (X := [(qo, .inl (cA 2, 1, .inr (.inl fo'))), (qd, .inl (cA 3, 1, .inr (.inr (.inr (.inl fd)))))]) (own := RL) (x := 140) (rest := []) hl0 ht (by decide) rfl rfl hx hts hb hown hP hD hK hWX hA hS (hl.1.trans hml.symm) (lz 7 rfl) (lz 8 rfl) (lz 9 rfl) ⟨by decide, by decide, r0 rfl hc, r6 rfl hs⟩ (by decide) (by decide +kernel) rfl (fun E τ e => by cases e) (fun v τ e H locs hP hS => ?_)
  cases e
  have hD := wOX_D (τ := sz τ2) hD
  refine W.widen (k := cells + 2) (n := slots + 12) (w0 rfl) (w6 rfl) ?_
  refine W.eq (g2 := F0 m 2163 ls [.int (iI (τ2 21 7))]) rfl ?_
  refine lv_iload hx hb (i := 6) (x := k) (by decide +kernel) (lv_at hl 1 rfl) ?_
  refine lv_icmp_eq hx hb (off := 5) (tgt := 2170) (by decide +kernel) (by decide) (fun _ => ?_) (fun h => absurd hk h)
  refine lv_iload hx hb (i := 6) (x := k) (by decide +kernel) (lv_at hl 1 rfl) ?_
  have fin : ∀ pc9 : Nat, pc9 = 2187 → W p l e room_1 s m args below meth c H locs (cells + 2) (slots + 12) Q (F0 m pc9 ls []) := by
    rintro _ rfl
    refine lv_goto hx hb (off := 304) (tgt := 2491) (by decide +kernel) (by decide) ?_
    exact kk τ2 fo' _ _ _ hW2 hP hD hS (lv_sub hl [2, 3, 4, 5, 6, 7] rfl)
  refine lv_if_ne hx hb (off := 15) (tgt := 2187) (by decide +kernel) (by decide) (fun _ => fin _ rfl) (fun hk0 => ?_)
  refine lv_aload_n hx hb (k := 3) (i := 3) (x := qo) (by decide +kernel) rfl (lv_at hl 5 rfl) ?_
  refine lv_iconst hx hb (n := 0) (v := 0) (by decide +kernel) rfl ?_
  refine va_lald hx hb hK hP (31 + 0) 2 (wOX_get (j := 0) rfl) rfl vp01 (by decide +kernel) ?_
  refine lv_iload hx hb (i := 7) (x := b') (by decide +kernel) (lv_at hl 0 rfl) ?_
  refine lv_i2l hx hb (by decide +kernel) rfl ?_
  refine W.lcmp hx hb (by decide +kernel) ?_
  refine lv_if_eq hx hb (off := 5) (tgt := 2187) (by decide +kernel) (by decide) (fun _ => fin _ rfl) (fun h => absurd (gcmp (hv hk0)) h)
theorem cs_account (F : LF D A ad adV cA p l s m args c b L xs) {B : Int} {τ : SZ} (hW : WL B τ) (hB : B + 400 ≤ 100000000) {i : Nat} (hi : i + 5 ≤ L) (hL : L ≤ 2560) {qo qd : Nat} {fo : Nat → Int64} {fd : Nat → UInt64} (hP : va_P D cls9 (LV ad cA qo qd (sz τ) fo fd) H) (hD : va_D A (LV ad cA qo qd (sz τ) fo fd)) (hS : va_S A s.heap H locs) (hc : cells + 2 ≤ room_1.cells) (hs : slots + 12 ≤ room_1.slots) {ls : Array Slot} (hl : lv_has ls 9 [(0, .ref b), (1, .ref (ad 0)), (2, .ref (ad 21)), (3, .ref qo), (4, .ref qd), (5, .int (nI i))])
    (kk : ∀ (τ' : SZ) (fo' : Nat → Int64) (H' : Heap) (locs' : List Loc) (ls' : Array Slot), WL (B + 200) τ' → va_P D cls9 (LV ad cA qo qd (sz τ') fo' fd) H' → va_D A (LV ad cA qo qd (sz τ') fo' fd) → va_S A s.heap H' locs' → lv_has ls' 9 [(0, .ref b), (1, .ref (ad 0)), (2, .ref (ad 21)), (3, .ref qo), (4, .ref qd), (5, .int (nI i))] → W p l e room_1 s m args below meth c H' locs' (cells + 2) (slots + 12) Q (F0 m 2491 ls' [])) : W p l e room_1 s m args below meth c H locs cells slots Q (F0 m 2190 ls []) := by
  obtain ⟨hx, hb, hml, hown, hts, hK, hWX, hA, hN, hX, hbl, hbA, hl0⟩ := F
  obtain ⟨r, b', τ1, τ2, hr, hE, hm, ht, hW2, hu, hq⟩ := cal_rr (ad := ad) (cA := cA) (as' := [.inr (xs (i + 1))]) (kc_account hW hB (xs (i + 1))) (by simp only [List.map_cons, List.map_nil, vT1]) (by decide) (by decide)
  refine lv_aload_n hx hb (k := 1) (i := 1) (x := ad 0) (by decide +kernel) rfl (lv_at hl 1 rfl) ?_
  refine lv_aload_n hx hb (k := 0) (i := 0) (x := b) (by decide +kernel) rfl (lv_at hl 0 rfl) ?_
  refine lv_iload hx hb (i := 5) (x := nI i) (by decide +kernel) (lv_at hl 5 rfl) ?_
  refine lv_iconst hx hb (n := 1) (v := 1) (by decide +kernel) rfl ?_
  refine lv_iadd hx hb (x := nI i) (y := 1) (by decide +kernel) ?_
  rw [ia1]
  refine va_sld hx hb hX hbl hbA hS (vp_in_nI (n := i + 1) (by omega) (by omega)) (by decide +kernel) ?_
  rw [nI_clamp (show i + 1 < 2 ^ 31 by omega)]
  refine lv_aload_n hx hb (k := 3) (i := 3) (x := qo) (by decide +kernel) rfl (lv_at hl 3 rfl) ?_
  refine lm_call (own := RL) (x := 236) (n := 3) (rest := []) (w_account (a1 := xs (i + 1)) (fo := fo) (qo := qo) (X := [(qd, .inl (cA 3, 1, .inr (.inr (.inr (.inl fd)))))]) hl0 hr hE) hx hts hb hown hP hD hK hWX hA hN hS (hl.1.trans hml.symm) (lz 178 rfl) (lz 179 rfl) (lz 180 rfl) (lz 3 rfl) ⟨by decide, by decide, by decide +kernel⟩ rfl ⟨by decide, by decide, hc, hs⟩ (by decide) (by decide +kernel) rfl (fun k W' hG H locs hP hD hS => ?_)
  obtain ⟨fo', rfl, hk, hv⟩ := hu _ _ _ _ _ hG
  refine lv_istore hx hb (i := 6) (lv' := [(6, .int k), (0, .ref b), (1, .ref (ad 0)), (2, .ref (ad 21)), (3, .ref qo), (4, .ref qd), (5, .int (nI i))]) (by decide +kernel) hl (by decide) rfl (fun ls hl => ?_)
  refine lv_aload_n hx hb (k := 2) (i := 2) (x := ad 21) (by decide +kernel) rfl (lv_at hl 3 rfl) ?_
  refine lv_aload_n hx hb (k := 0) (i := 0) (x := b) (by decide +kernel) rfl (lv_at hl 1 rfl) ?_
  refine lv_iload hx hb (i := 5) (x := nI i) (by decide +kernel) (lv_at hl 6 rfl) ?_
  refine lv_iconst hx hb (n := 1) (v := 1) (by decide +kernel) rfl ?_
  refine lv_iadd hx hb (x := nI i) (y := 1) (by decide +kernel) ?_
  rw [ia1]
  refine va_sld hx hb hX hbl hbA hS (vp_in_nI (n := i + 1) (by omega) (by omega)) (by decide +kernel) ?_
  rw [nI_clamp (show i + 1 < 2 ^ 31 by omega)]
  refine lcall (d := 12) (j := m8_account) (a := 21) (as := [.inr (xs (i + 1))]) (X := [(qo, .inl (cA 2, 1, .inr (.inl fo'))), (qd, .inl (cA 3, 1, .inr (.inr (.inr (.inl fd)))))]) (own := RL) (x := 238) (rest := []) hl0 hm (by decide) rfl rfl hx hts hb hown hP hD hK hWX hA hS (hl.1.trans hml.symm) (lz 181 rfl) (lz 182 rfl) (lz 183 rfl) ⟨by decide, by decide, r0 rfl hc, r6 rfl hs⟩ (by decide) (by decide +kernel) rfl (fun E τ e => by cases e) (fun v τ e H locs hP hS => ?_)
  cases e
  have hD := wOX_D (τ := sz τ2) hD
  refine W.widen (k := cells + 2) (n := slots + 12) (w0 rfl) (w6 rfl) ?_
  refine W.eq (g2 := F0 m 2213 ls [.int b']) rfl ?_
  refine lv_istore hx hb (i := 7) (lv' := [(7, .int b'), (6, .int k), (0, .ref b), (1, .ref (ad 0)), (2, .ref (ad 21)), (3, .ref qo), (4, .ref qd), (5, .int (nI i))]) (by decide +kernel) hl (by decide) rfl (fun ls hl => ?_)
  refine lv_aload_n hx hb (k := 2) (i := 2) (x := ad 21) (by decide +kernel) rfl (lv_at hl 4 rfl) ?_
  refine lcall (d := 12) (j := m8_thrown) (a := 21) (as := []) (X := [(qo, .inl (cA 2, 1, .inr (.inl fo'))), (qd, .inl (cA 3, 1, .inr (.inr (.inr (.inl fd)))))]) (own := RL) (x := 140) (rest := []) hl0 ht (by decide) rfl rfl hx hts hb hown hP hD hK hWX hA hS (hl.1.trans hml.symm) (lz 7 rfl) (lz 8 rfl) (lz 9 rfl) ⟨by decide, by decide, r0 rfl hc, r6 rfl hs⟩ (by decide) (by decide +kernel) rfl (fun E τ e => by cases e) (fun v τ e H locs hP hS => ?_)
  cases e
  have hD := wOX_D (τ := sz τ2) hD
  refine W.widen (k := cells + 2) (n := slots + 12) (w0 rfl) (w6 rfl) ?_
  refine W.eq (g2 := F0 m 2219 ls [.int (iI (τ2 21 7))]) rfl ?_
  refine lv_iload hx hb (i := 6) (x := k) (by decide +kernel) (lv_at hl 1 rfl) ?_
  refine lv_icmp_eq hx hb (off := 5) (tgt := 2226) (by decide +kernel) (by decide) (fun _ => ?_) (fun h => absurd hk h)
  refine lv_iload hx hb (i := 6) (x := k) (by decide +kernel) (lv_at hl 1 rfl) ?_
  have fin : ∀ pc9 : Nat, pc9 = 2243 → W p l e room_1 s m args below meth c H locs (cells + 2) (slots + 12) Q (F0 m pc9 ls []) := by
    rintro _ rfl
    refine lv_goto hx hb (off := 248) (tgt := 2491) (by decide +kernel) (by decide) ?_
    exact kk τ2 fo' _ _ _ hW2 hP hD hS (lv_sub hl [2, 3, 4, 5, 6, 7] rfl)
  refine lv_if_ne hx hb (off := 15) (tgt := 2243) (by decide +kernel) (by decide) (fun _ => fin _ rfl) (fun hk0 => ?_)
  refine lv_aload_n hx hb (k := 3) (i := 3) (x := qo) (by decide +kernel) rfl (lv_at hl 5 rfl) ?_
  refine lv_iconst hx hb (n := 0) (v := 0) (by decide +kernel) rfl ?_
  refine va_lald hx hb hK hP (31 + 0) 2 (wOX_get (j := 0) rfl) rfl vp01 (by decide +kernel) ?_
  refine lv_iload hx hb (i := 7) (x := b') (by decide +kernel) (lv_at hl 0 rfl) ?_
  refine lv_i2l hx hb (by decide +kernel) rfl ?_
  refine W.lcmp hx hb (by decide +kernel) ?_
  refine lv_if_eq hx hb (off := 5) (tgt := 2243) (by decide +kernel) (by decide) (fun _ => fin _ rfl) (fun h => absurd (gcmp (hv hk0)) h)
theorem cs_isWell (F : LF D A ad adV cA p l s m args c b L xs) {B : Int} {τ : SZ} (hW : WL B τ) (hB : B + 400 ≤ 100000000) {i : Nat} (hi : i + 5 ≤ L) (hL : L ≤ 2560) {qo qd : Nat} {fo : Nat → Int64} {fd : Nat → UInt64} (hP : va_P D cls9 (LV ad cA qo qd (sz τ) fo fd) H) (hD : va_D A (LV ad cA qo qd (sz τ) fo fd)) (hS : va_S A s.heap H locs) (hc : cells + 2 ≤ room_1.cells) (hs : slots + 12 ≤ room_1.slots) {ls : Array Slot} (hl : lv_has ls 9 [(0, .ref b), (1, .ref (ad 0)), (2, .ref (ad 21)), (3, .ref qo), (4, .ref qd), (5, .int (nI i))])
    (kk : ∀ (τ' : SZ) (fo' : Nat → Int64) (H' : Heap) (locs' : List Loc) (ls' : Array Slot), WL (B + 200) τ' → va_P D cls9 (LV ad cA qo qd (sz τ') fo' fd) H' → va_D A (LV ad cA qo qd (sz τ') fo' fd) → va_S A s.heap H' locs' → lv_has ls' 9 [(0, .ref b), (1, .ref (ad 0)), (2, .ref (ad 21)), (3, .ref qo), (4, .ref qd), (5, .int (nI i))] → W p l e room_1 s m args below meth c H' locs' (cells + 2) (slots + 12) Q (F0 m 2491 ls' [])) : W p l e room_1 s m args below meth c H locs cells slots Q (F0 m 2246 ls []) := by
  obtain ⟨hx, hb, hml, hown, hts, hK, hWX, hA, hN, hX, hbl, hbA, hl0⟩ := F
  obtain ⟨r, b', τ1, τ2, hr, hE, hm, ht, hW2, hu, hq⟩ := cal_rr (ad := ad) (cA := cA) (as' := []) (kc_isWell hW hB) (by simp only [List.map_cons, List.map_nil, vT1]) (by decide) (by decide)
  obtain rfl := hq rfl
  refine lv_aload_n hx hb (k := 1) (i := 1) (x := ad 0) (by decide +kernel) rfl (lv_at hl 1 rfl) ?_
  refine lcall (d := 12) (j := m7_isWell) (a := 0) (as := []) (X := [(qo, .inl (cA 2, 1, .inr (.inl fo))), (qd, .inl (cA 3, 1, .inr (.inr (.inr (.inl fd)))))]) (own := RL) (x := 239) (rest := []) hl0 hr (by decide) rfl rfl hx hts hb hown hP hD hK hWX hA hS (hl.1.trans hml.symm) (lz 184 rfl) (lz 185 rfl) (lz 186 rfl) ⟨by decide, by decide, r0 rfl (Nat.le_trans (by omega) hc), r6 rfl (Nat.le_trans (by omega) hs)⟩ (by decide) (by decide +kernel) rfl (fun E τ e => by cases e) (fun v τ e H locs hP hS => ?_)
  cases e
  have hD := wOX_D (τ := τ1) hD
  refine W.widen (k := cells + 2) (n := slots + 12) (w2 rfl) (w12 rfl) ?_
  refine W.eq (g2 := F0 m 2250 ls [.int b']) rfl ?_
  refine lv_aload_n hx hb (k := 2) (i := 2) (x := ad 21) (by decide +kernel) rfl (lv_at hl 2 rfl) ?_
  refine lcall (d := 12) (j := m8_isWell) (a := 21) (as := []) (X := [(qo, .inl (cA 2, 1, .inr (.inl fo))), (qd, .inl (cA 3, 1, .inr (.inr (.inr (.inl fd)))))]) (own := RL) (x := 243) (rest := [.int b']) hl0 hm (by decide) rfl rfl hx hts hb hown hP hD hK hWX hA hS (hl.1.trans hml.symm) (lz 187 rfl) (lz 188 rfl) (lz 189 rfl) ⟨by decide, by decide, r0 rfl hc, r6 rfl hs⟩ (by show (1 : Nat) ≤ 8; decide) (by decide +kernel) rfl (fun E τ e => by cases e) (fun v τ e H locs hP hS => ?_)
  cases e
  have hD := wOX_D (τ := sz τ2) hD
  refine W.widen (k := cells + 2) (n := slots + 12) (w0 rfl) (w6 rfl) ?_
  refine W.eq (g2 := F0 m 2254 ls [.int b', .int b']) rfl ?_
  refine lv_icmp_eq hx hb (off := 237) (tgt := 2491) (by decide +kernel) (by decide) (fun _ => ?_) (fun h => absurd rfl h)
  exact kk τ2 fo _ _ _ hW2 hP hD hS (lv_sub hl [0, 1, 2, 3, 4, 5] rfl)
theorem cs_undo (F : LF D A ad adV cA p l s m args c b L xs) {B : Int} {τ : SZ} (hW : WL B τ) (hB : B + 400 ≤ 100000000) {i : Nat} (hi : i + 5 ≤ L) (hL : L ≤ 2560) {qo qd : Nat} {fo : Nat → Int64} {fd : Nat → UInt64} (hP : va_P D cls9 (LV ad cA qo qd (sz τ) fo fd) H) (hD : va_D A (LV ad cA qo qd (sz τ) fo fd)) (hS : va_S A s.heap H locs) (hc : cells + 2 ≤ room_1.cells) (hs : slots + 12 ≤ room_1.slots) {ls : Array Slot} (hl : lv_has ls 9 [(0, .ref b), (1, .ref (ad 0)), (2, .ref (ad 21)), (3, .ref qo), (4, .ref qd), (5, .int (nI i))])
    (kk : ∀ (τ' : SZ) (fo' : Nat → Int64) (H' : Heap) (locs' : List Loc) (ls' : Array Slot), WL (B + 200) τ' → va_P D cls9 (LV ad cA qo qd (sz τ') fo' fd) H' → va_D A (LV ad cA qo qd (sz τ') fo' fd) → va_S A s.heap H' locs' → lv_has ls' 9 [(0, .ref b), (1, .ref (ad 0)), (2, .ref (ad 21)), (3, .ref qo), (4, .ref qd), (5, .int (nI i))] → W p l e room_1 s m args below meth c H' locs' (cells + 2) (slots + 12) Q (F0 m 2491 ls' [])) : W p l e room_1 s m args below meth c H locs cells slots Q (F0 m 2390 ls []) := by
  obtain ⟨hx, hb, hml, hown, hts, hK, hWX, hA, hN, hX, hbl, hbA, hl0⟩ := F
  obtain ⟨r, b', τ1, τ2, hr, hE, hm, ht, hW2, hu, hq⟩ := cal_rr (ad := ad) (cA := cA) (as' := []) (kc_undo hW hB) (by simp only [List.map_cons, List.map_nil, vT1]) (by decide) (by decide)
  refine lv_aload_n hx hb (k := 1) (i := 1) (x := ad 0) (by decide +kernel) rfl (lv_at hl 1 rfl) ?_
  refine lv_aload_n hx hb (k := 3) (i := 3) (x := qo) (by decide +kernel) rfl (lv_at hl 3 rfl) ?_
  refine lm_call (own := RL) (x := 251) (n := 2) (rest := []) (w_undo (fo := fo) (qo := qo) (X := [(qd, .inl (cA 3, 1, .inr (.inr (.inr (.inl fd)))))]) hl0 hr hE) hx hts hb hown hP hD hK hWX hA hN hS (hl.1.trans hml.symm) (lz 190 rfl) (lz 191 rfl) (lz 192 rfl) (lz 3 rfl) ⟨by decide, by decide, by decide +kernel⟩ rfl ⟨by decide, by decide, hc, hs⟩ (by decide) (by decide +kernel) rfl (fun k W' hG H locs hP hD hS => ?_)
  obtain ⟨fo', rfl, hk, hv⟩ := hu _ _ _ _ _ hG
  refine lv_istore hx hb (i := 6) (lv' := [(6, .int k), (0, .ref b), (1, .ref (ad 0)), (2, .ref (ad 21)), (3, .ref qo), (4, .ref qd), (5, .int (nI i))]) (by decide +kernel) hl (by decide) rfl (fun ls hl => ?_)
  refine lv_aload_n hx hb (k := 2) (i := 2) (x := ad 21) (by decide +kernel) rfl (lv_at hl 3 rfl) ?_
  refine lcall (d := 12) (j := m8_undo) (a := 21) (as := []) (X := [(qo, .inl (cA 2, 1, .inr (.inl fo'))), (qd, .inl (cA 3, 1, .inr (.inr (.inr (.inl fd)))))]) (own := RL) (x := 253) (rest := []) hl0 hm (by decide) rfl rfl hx hts hb hown hP hD hK hWX hA hS (hl.1.trans hml.symm) (lz 193 rfl) (lz 194 rfl) (lz 195 rfl) ⟨by decide, by decide, r0 rfl hc, r6 rfl hs⟩ (by decide) (by decide +kernel) rfl (fun E τ e => by cases e) (fun v τ e H locs hP hS => ?_)
  cases e
  have hD := wOX_D (τ := sz τ2) hD
  refine W.widen (k := cells + 2) (n := slots + 12) (w0 rfl) (w6 rfl) ?_
  refine W.eq (g2 := F0 m 2401 ls [.int b']) rfl ?_
  refine lv_istore hx hb (i := 7) (lv' := [(7, .int b'), (6, .int k), (0, .ref b), (1, .ref (ad 0)), (2, .ref (ad 21)), (3, .ref qo), (4, .ref qd), (5, .int (nI i))]) (by decide +kernel) hl (by decide) rfl (fun ls hl => ?_)
  refine lv_aload_n hx hb (k := 2) (i := 2) (x := ad 21) (by decide +kernel) rfl (lv_at hl 4 rfl) ?_
  refine lcall (d := 12) (j := m8_thrown) (a := 21) (as := []) (X := [(qo, .inl (cA 2, 1, .inr (.inl fo'))), (qd, .inl (cA 3, 1, .inr (.inr (.inr (.inl fd)))))]) (own := RL) (x := 140) (rest := []) hl0 ht (by decide) rfl rfl hx hts hb hown hP hD hK hWX hA hS (hl.1.trans hml.symm) (lz 7 rfl) (lz 8 rfl) (lz 9 rfl) ⟨by decide, by decide, r0 rfl hc, r6 rfl hs⟩ (by decide) (by decide +kernel) rfl (fun E τ e => by cases e) (fun v τ e H locs hP hS => ?_)
  cases e
  have hD := wOX_D (τ := sz τ2) hD
  refine W.widen (k := cells + 2) (n := slots + 12) (w0 rfl) (w6 rfl) ?_
  refine W.eq (g2 := F0 m 2407 ls [.int (iI (τ2 21 7))]) rfl ?_
  refine lv_iload hx hb (i := 6) (x := k) (by decide +kernel) (lv_at hl 1 rfl) ?_
  refine lv_icmp_eq hx hb (off := 5) (tgt := 2414) (by decide +kernel) (by decide) (fun _ => ?_) (fun h => absurd hk h)
  refine lv_iload hx hb (i := 6) (x := k) (by decide +kernel) (lv_at hl 1 rfl) ?_
  have fin : ∀ pc9 : Nat, pc9 = 2431 → W p l e room_1 s m args below meth c H locs (cells + 2) (slots + 12) Q (F0 m pc9 ls []) := by
    rintro _ rfl
    refine lv_goto hx hb (off := 60) (tgt := 2491) (by decide +kernel) (by decide) ?_
    exact kk τ2 fo' _ _ _ hW2 hP hD hS (lv_sub hl [2, 3, 4, 5, 6, 7] rfl)
  refine lv_if_ne hx hb (off := 15) (tgt := 2431) (by decide +kernel) (by decide) (fun _ => fin _ rfl) (fun hk0 => ?_)
  refine lv_aload_n hx hb (k := 3) (i := 3) (x := qo) (by decide +kernel) rfl (lv_at hl 5 rfl) ?_
  refine lv_iconst hx hb (n := 0) (v := 0) (by decide +kernel) rfl ?_
  refine va_lald hx hb hK hP (31 + 0) 2 (wOX_get (j := 0) rfl) rfl vp01 (by decide +kernel) ?_
  refine lv_iload hx hb (i := 7) (x := b') (by decide +kernel) (lv_at hl 0 rfl) ?_
  refine lv_i2l hx hb (by decide +kernel) rfl ?_
  refine W.lcmp hx hb (by decide +kernel) ?_
  refine lv_if_eq hx hb (off := 5) (tgt := 2431) (by decide +kernel) (by decide) (fun _ => fin _ rfl) (fun h => absurd (gcmp (hv hk0)) h)
theorem cs_save (F : LF D A ad adV cA p l s m args c b L xs) {B : Int} {τ : SZ} (hW : WL B τ) (hB : B + 400 ≤ 100000000) {i : Nat} (hi : i + 5 ≤ L) (hL : L ≤ 2560) {qo qd : Nat} {fo : Nat → Int64} {fd : Nat → UInt64} (hP : va_P D cls9 (LV ad cA qo qd (sz τ) fo fd) H) (hD : va_D A (LV ad cA qo qd (sz τ) fo fd)) (hS : va_S A s.heap H locs) (hc : cells + 2 ≤ room_1.cells) (hs : slots + 12 ≤ room_1.slots) {ls : Array Slot} (hl : lv_has ls 9 [(0, .ref b), (1, .ref (ad 0)), (2, .ref (ad 21)), (3, .ref qo), (4, .ref qd), (5, .int (nI i))])
    (kk : ∀ (τ' : SZ) (fo' : Nat → Int64) (H' : Heap) (locs' : List Loc) (ls' : Array Slot), WL (B + 200) τ' → va_P D cls9 (LV ad cA qo qd (sz τ') fo' fd) H' → va_D A (LV ad cA qo qd (sz τ') fo' fd) → va_S A s.heap H' locs' → lv_has ls' 9 [(0, .ref b), (1, .ref (ad 0)), (2, .ref (ad 21)), (3, .ref qo), (4, .ref qd), (5, .int (nI i))] → W p l e room_1 s m args below meth c H' locs' (cells + 2) (slots + 12) Q (F0 m 2491 ls' [])) : W p l e room_1 s m args below meth c H locs cells slots Q (F0 m 2434 ls []) := by
  obtain ⟨hx, hb, hml, hown, hts, hK, hWX, hA, hN, hX, hbl, hbA, hl0⟩ := F
  obtain ⟨r, b', τ1, τ2, hr, hE, hm, ht, hW2, hu, hq⟩ := cal_rr (ad := ad) (cA := cA) (as' := []) (kc_save hW hB) (by simp only [List.map_cons, List.map_nil, vT1]) (by decide) (by decide)
  obtain rfl := hq rfl
  refine lv_aload_n hx hb (k := 1) (i := 1) (x := ad 0) (by decide +kernel) rfl (lv_at hl 1 rfl) ?_
  refine lcall (d := 12) (j := m7_save) (a := 0) (as := []) (X := [(qo, .inl (cA 2, 1, .inr (.inl fo))), (qd, .inl (cA 3, 1, .inr (.inr (.inr (.inl fd)))))]) (own := RL) (x := 254) (rest := []) hl0 hr (by decide) rfl rfl hx hts hb hown hP hD hK hWX hA hS (hl.1.trans hml.symm) (lz 196 rfl) (lz 197 rfl) (lz 198 rfl) ⟨by decide, by decide, r0 rfl (Nat.le_trans (by omega) hc), r6 rfl (Nat.le_trans (by omega) hs)⟩ (by decide) (by decide +kernel) rfl (fun E τ e => by cases e) (fun v τ e H locs hP hS => ?_)
  cases e
  have hD := wOX_D (τ := τ1) hD
  refine W.widen (k := cells + 2) (n := slots + 12) (w2 rfl) (w12 rfl) ?_
  refine W.eq (g2 := F0 m 2438 ls [.int b']) rfl ?_
  refine lv_aload_n hx hb (k := 2) (i := 2) (x := ad 21) (by decide +kernel) rfl (lv_at hl 2 rfl) ?_
  refine lcall (d := 12) (j := m8_save) (a := 21) (as := []) (X := [(qo, .inl (cA 2, 1, .inr (.inl fo))), (qd, .inl (cA 3, 1, .inr (.inr (.inr (.inl fd)))))]) (own := RL) (x := 257) (rest := [.int b']) hl0 hm (by decide) rfl rfl hx hts hb hown hP hD hK hWX hA hS (hl.1.trans hml.symm) (lz 199 rfl) (lz 200 rfl) (lz 201 rfl) ⟨by decide, by decide, r0 rfl hc, r6 rfl hs⟩ (by show (1 : Nat) ≤ 8; decide) (by decide +kernel) rfl (fun E τ e => by cases e) (fun v τ e H locs hP hS => ?_)
  cases e
  have hD := wOX_D (τ := sz τ2) hD
  refine W.widen (k := cells + 2) (n := slots + 12) (w0 rfl) (w6 rfl) ?_
  refine W.eq (g2 := F0 m 2442 ls [.int b', .int b']) rfl ?_
  refine lv_icmp_eq hx hb (off := 49) (tgt := 2491) (by decide +kernel) (by decide) (fun _ => ?_) (fun h => absurd rfl h)
  exact kk τ2 fo _ _ _ hW2 hP hD hS (lv_sub hl [0, 1, 2, 3, 4, 5] rfl)
theorem cs_restore (F : LF D A ad adV cA p l s m args c b L xs) {B : Int} {τ : SZ} (hW : WL B τ) (hB : B + 400 ≤ 100000000) {i : Nat} (hi : i + 5 ≤ L) (hL : L ≤ 2560) {qo qd : Nat} {fo : Nat → Int64} {fd : Nat → UInt64} (hP : va_P D cls9 (LV ad cA qo qd (sz τ) fo fd) H) (hD : va_D A (LV ad cA qo qd (sz τ) fo fd)) (hS : va_S A s.heap H locs) (hc : cells + 2 ≤ room_1.cells) (hs : slots + 12 ≤ room_1.slots) {ls : Array Slot} (hl : lv_has ls 9 [(0, .ref b), (1, .ref (ad 0)), (2, .ref (ad 21)), (3, .ref qo), (4, .ref qd), (5, .int (nI i))])
    (kk : ∀ (τ' : SZ) (fo' : Nat → Int64) (H' : Heap) (locs' : List Loc) (ls' : Array Slot), WL (B + 200) τ' → va_P D cls9 (LV ad cA qo qd (sz τ') fo' fd) H' → va_D A (LV ad cA qo qd (sz τ') fo' fd) → va_S A s.heap H' locs' → lv_has ls' 9 [(0, .ref b), (1, .ref (ad 0)), (2, .ref (ad 21)), (3, .ref qo), (4, .ref qd), (5, .int (nI i))] → W p l e room_1 s m args below meth c H' locs' (cells + 2) (slots + 12) Q (F0 m 2491 ls' [])) : W p l e room_1 s m args below meth c H locs cells slots Q (F0 m 2447 ls []) := by
  obtain ⟨hx, hb, hml, hown, hts, hK, hWX, hA, hN, hX, hbl, hbA, hl0⟩ := F
  obtain ⟨r, b', τ1, τ2, hr, hE, hm, ht, hW2, hu, hq⟩ := cal_rr (ad := ad) (cA := cA) (as' := []) (kc_restore hW hB) (by simp only [List.map_cons, List.map_nil, vT1]) (by decide) (by decide)
  refine lv_aload_n hx hb (k := 1) (i := 1) (x := ad 0) (by decide +kernel) rfl (lv_at hl 1 rfl) ?_
  refine lv_aload_n hx hb (k := 3) (i := 3) (x := qo) (by decide +kernel) rfl (lv_at hl 3 rfl) ?_
  refine lm_call (own := RL) (x := 258) (n := 2) (rest := []) (w_restore (fo := fo) (qo := qo) (X := [(qd, .inl (cA 3, 1, .inr (.inr (.inr (.inl fd)))))]) hl0 hr hE) hx hts hb hown hP hD hK hWX hA hN hS (hl.1.trans hml.symm) (lz 202 rfl) (lz 203 rfl) (lz 204 rfl) (lz 3 rfl) ⟨by decide, by decide, by decide +kernel⟩ rfl ⟨by decide, by decide, hc, hs⟩ (by decide) (by decide +kernel) rfl (fun k W' hG H locs hP hD hS => ?_)
  obtain ⟨fo', rfl, hk, hv⟩ := hu _ _ _ _ _ hG
  refine lv_istore hx hb (i := 6) (lv' := [(6, .int k), (0, .ref b), (1, .ref (ad 0)), (2, .ref (ad 21)), (3, .ref qo), (4, .ref qd), (5, .int (nI i))]) (by decide +kernel) hl (by decide) rfl (fun ls hl => ?_)
  refine lv_aload_n hx hb (k := 2) (i := 2) (x := ad 21) (by decide +kernel) rfl (lv_at hl 3 rfl) ?_
  refine lcall (d := 12) (j := m8_restore) (a := 21) (as := []) (X := [(qo, .inl (cA 2, 1, .inr (.inl fo'))), (qd, .inl (cA 3, 1, .inr (.inr (.inr (.inl fd)))))]) (own := RL) (x := 260) (rest := []) hl0 hm (by decide) rfl rfl hx hts hb hown hP hD hK hWX hA hS (hl.1.trans hml.symm) (lz 205 rfl) (lz 206 rfl) (lz 207 rfl) ⟨by decide, by decide, r0 rfl hc, r6 rfl hs⟩ (by decide) (by decide +kernel) rfl (fun E τ e => by cases e) (fun v τ e H locs hP hS => ?_)
  cases e
  have hD := wOX_D (τ := sz τ2) hD
  refine W.widen (k := cells + 2) (n := slots + 12) (w0 rfl) (w6 rfl) ?_
  refine W.eq (g2 := F0 m 2458 ls [.int b']) rfl ?_
  refine lv_istore hx hb (i := 7) (lv' := [(7, .int b'), (6, .int k), (0, .ref b), (1, .ref (ad 0)), (2, .ref (ad 21)), (3, .ref qo), (4, .ref qd), (5, .int (nI i))]) (by decide +kernel) hl (by decide) rfl (fun ls hl => ?_)
  refine lv_aload_n hx hb (k := 2) (i := 2) (x := ad 21) (by decide +kernel) rfl (lv_at hl 4 rfl) ?_
  refine lcall (d := 12) (j := m8_thrown) (a := 21) (as := []) (X := [(qo, .inl (cA 2, 1, .inr (.inl fo'))), (qd, .inl (cA 3, 1, .inr (.inr (.inr (.inl fd)))))]) (own := RL) (x := 140) (rest := []) hl0 ht (by decide) rfl rfl hx hts hb hown hP hD hK hWX hA hS (hl.1.trans hml.symm) (lz 7 rfl) (lz 8 rfl) (lz 9 rfl) ⟨by decide, by decide, r0 rfl hc, r6 rfl hs⟩ (by decide) (by decide +kernel) rfl (fun E τ e => by cases e) (fun v τ e H locs hP hS => ?_)
  cases e
  have hD := wOX_D (τ := sz τ2) hD
  refine W.widen (k := cells + 2) (n := slots + 12) (w0 rfl) (w6 rfl) ?_
  refine W.eq (g2 := F0 m 2464 ls [.int (iI (τ2 21 7))]) rfl ?_
  refine lv_iload hx hb (i := 6) (x := k) (by decide +kernel) (lv_at hl 1 rfl) ?_
  refine lv_icmp_eq hx hb (off := 5) (tgt := 2471) (by decide +kernel) (by decide) (fun _ => ?_) (fun h => absurd hk h)
  refine lv_iload hx hb (i := 6) (x := k) (by decide +kernel) (lv_at hl 1 rfl) ?_
  have fin : ∀ pc9 : Nat, pc9 = 2488 → W p l e room_1 s m args below meth c H locs (cells + 2) (slots + 12) Q (F0 m pc9 ls []) := by
    rintro _ rfl
    refine lv_goto hx hb (off := 3) (tgt := 2491) (by decide +kernel) (by decide) ?_
    exact kk τ2 fo' _ _ _ hW2 hP hD hS (lv_sub hl [2, 3, 4, 5, 6, 7] rfl)
  refine lv_if_ne hx hb (off := 15) (tgt := 2488) (by decide +kernel) (by decide) (fun _ => fin _ rfl) (fun hk0 => ?_)
  refine lv_aload_n hx hb (k := 3) (i := 3) (x := qo) (by decide +kernel) rfl (lv_at hl 5 rfl) ?_
  refine lv_iconst hx hb (n := 0) (v := 0) (by decide +kernel) rfl ?_
  refine va_lald hx hb hK hP (31 + 0) 2 (wOX_get (j := 0) rfl) rfl vp01 (by decide +kernel) ?_
  refine lv_iload hx hb (i := 7) (x := b') (by decide +kernel) (lv_at hl 0 rfl) ?_
  refine lv_i2l hx hb (by decide +kernel) rfl ?_
  refine W.lcmp hx hb (by decide +kernel) ?_
  refine lv_if_eq hx hb (off := 5) (tgt := 2488) (by decide +kernel) (by decide) (fun _ => fin _ rfl) (fun h => absurd (gcmp (hv hk0)) h)
end LCS
