/-! facts of the methods, decided by program; printed by wip/whole/gen.py -/
section FCM
set_option maxRecDepth 20000 in
theorem cw_0 : MTL0.map (fun m => Jvm.Cond.code m.1 m.2.1 m.2.2.1 m.2.2.2.1) = [234, 500, 473, 524, 719, 665, 252, 1402, 1414, 564, 555, 726, 572, 596, 592, 623].filterMap (fun i => lw_tbl[i]?) := rfl
set_option maxRecDepth 20000 in
theorem cw_1 : MTL1.map (fun m => Jvm.Cond.code m.1 m.2.1 m.2.2.1 m.2.2.2.1) = [627, 675, 670, 635, 829, 821, 825, 651, 845, 841, 647, 853, 643, 955, 914, 918].filterMap (fun i => lw_tbl[i]?) := rfl
set_option maxRecDepth 20000 in
theorem cw_2 : MTL2.map (fun m => Jvm.Cond.code m.1 m.2.1 m.2.2.1 m.2.2.2.1) = [929, 933, 373, 896, 1268, 1311, 1276, 1315, 1273, 1293, 1297, 256, 260, 429, 425, 248].filterMap (fun i => lw_tbl[i]?) := rfl
set_option maxRecDepth 20000 in
theorem cw_3 : MTL3.map (fun m => Jvm.Cond.code m.1 m.2.1 m.2.2.1 m.2.2.2.1) = [78, 587, 377, 900, 244, 398, 639, 707, 559, 390, 609, 605, 687, 683, 508, 394].filterMap (fun i => lw_tbl[i]?) := rfl
set_option maxRecDepth 20000 in
theorem cw_4 : MTL4.map (fun m => Jvm.Cond.code m.1 m.2.1 m.2.2.1 m.2.2.2.1) = [267, 512, 619, 504, 480, 489, 484, 692, 528, 532, 536, 568, 614, 385, 600, 631].filterMap (fun i => lw_tbl[i]?) := rfl
set_option maxRecDepth 20000 in
theorem cw_5 : MTL5.map (fun m => Jvm.Cond.code m.1 m.2.1 m.2.2.1 m.2.2.2.1) = [861, 1340, 1351, 1398, 1393, 1355, 1359, 1362, 1374, 1385, 1389, 1378, 1381, 230, 496, 469].filterMap (fun i => lw_tbl[i]?) := rfl
set_option maxRecDepth 20000 in
theorem cw_6 : MTL6.map (fun m => Jvm.Cond.code m.1 m.2.1 m.2.2.1 m.2.2.2.1) = [520, 715, 661, 738, 767, 943, 755, 775, 699, 782, 790, 813, 837, 805, 798, 544].filterMap (fun i => lw_tbl[i]?) := rfl
set_option maxRecDepth 20000 in
theorem cw_7 : MTL7.map (fun m => Jvm.Cond.code m.1 m.2.1 m.2.2.1 m.2.2.2.1) = [951, 910, 925, 1264, 1307, 1289, 1336, 1347, 406, 679, 849, 877, 582, 548, 271, 742].filterMap (fun i => lw_tbl[i]?) := rfl
set_option maxRecDepth 20000 in
theorem cw_8 : MTL8.map (fun m => Jvm.Cond.code m.1 m.2.1 m.2.2.1 m.2.2.2.1) = [703, 758, 816, 237, 476, 240, 578, 551].filterMap (fun i => lw_tbl[i]?) := rfl
theorem mc_0 : MTL0.all mchk = true := by decide +kernel
theorem mc_1 : MTL1.all mchk = true := by decide +kernel
theorem mc_2 : MTL2.all mchk = true := by decide +kernel
theorem mc_3 : MTL3.all mchk = true := by decide +kernel
theorem mc_4 : MTL4.all mchk = true := by decide +kernel
theorem mc_5 : MTL5.all mchk = true := by decide +kernel
theorem mc_6 : MTL6.all mchk = true := by decide +kernel
theorem mc_7 : MTL7.all mchk = true := by decide +kernel
theorem mc_8 : MTL8.all mchk = true := by decide +kernel
end FCM
