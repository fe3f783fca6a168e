/-! facts of the methods, decided by program; printed by wip/whole/gen.py -/
section FCM
set_option maxRecDepth 20000 in
theorem cw_0 : MTL0.map (fun m => Jvm.Cond.code m.1 m.2.1 m.2.2.1 m.2.2.2.1) = [386, 574, 597, 621, 648, 720, 395, 1099, 1111, 300, 656, 661, 308, 671, 667, 697].filterMap (fun i => lw_tbl[i]?) := rfl
set_option maxRecDepth 20000 in
theorem cw_1 : MTL1.map (fun m => Jvm.Cond.code m.1 m.2.1 m.2.2.1 m.2.2.2.1) = [701, 726, 296, 343, 287, 327, 331, 335, 339, 347, 351, 283, 858, 882, 894, 898].filterMap (fun i => lw_tbl[i]?) := rfl
set_option maxRecDepth 20000 in
theorem cw_2 : MTL2.map (fun m => Jvm.Cond.code m.1 m.2.1 m.2.2.1 m.2.2.2.1) = [909, 913, 512, 1196, 924, 945, 932, 949, 929, 960, 964, 399, 403, 1132, 1128, 271].filterMap (fun i => lw_tbl[i]?) := rfl
set_option maxRecDepth 20000 in
theorem cw_3 : MTL3.map (fun m => Jvm.Cond.code m.1 m.2.1 m.2.2.1 m.2.2.2.1) = [118, 366, 370, 1200, 267, 530, 709, 652, 292, 522, 683, 679, 1147, 1143, 315, 526].filterMap (fun i => lw_tbl[i]?) := rfl
set_option maxRecDepth 20000 in
theorem cw_4 : MTL4.map (fun m => Jvm.Cond.code m.1 m.2.1 m.2.2.1 m.2.2.2.1) = [320, 585, 693, 581, 601, 610, 605, 1152, 625, 629, 633, 304, 688, 518, 675, 705].filterMap (fun i => lw_tbl[i]?) := rfl
set_option maxRecDepth 20000 in
theorem cw_5 : MTL5.map (fun m => Jvm.Cond.code m.1 m.2.1 m.2.2.1 m.2.2.2.1) = [355, 991, 1002, 1095, 1090, 1006, 1010, 1013, 1071, 1082, 1086, 1075, 1078, 382, 570, 593].filterMap (fun i => lw_tbl[i]?) := rfl
set_option maxRecDepth 20000 in
theorem cw_6 : MTL6.map (fun m => Jvm.Cond.code m.1 m.2.1 m.2.2.1 m.2.2.2.1) = [617, 641, 716, 733, 746, 759, 767, 263, 775, 789, 812, 820, 833, 842, 850, 868].filterMap (fun i => lw_tbl[i]?) := rfl
set_option maxRecDepth 20000 in
theorem cw_7 : MTL7.map (fun m => Jvm.Cond.code m.1 m.2.1 m.2.2.1 m.2.2.2.1) = [878, 890, 905, 920, 941, 956, 972, 998, 275, 1124, 1139, 279, 1192, 362, 1207, 854].filterMap (fun i => lw_tbl[i]?) := rfl
set_option maxRecDepth 20000 in
theorem cw_8 : MTL8.map (fun m => Jvm.Cond.code m.1 m.2.1 m.2.2.1 m.2.2.2.1) = [871, 410, 737, 779, 749, 823, 389, 577, 311, 323, 644, 1278, 1301, 1290, 1336, 1308].filterMap (fun i => lw_tbl[i]?) := rfl
set_option maxRecDepth 20000 in
theorem cw_9 : MTL9.map (fun m => Jvm.Cond.code m.1 m.2.1 m.2.2.1 m.2.2.2.1) = [1316, 1312, 1282, 1380, 1298, 1304, 1328, 1332, 1324, 1352, 1320, 1396, 1348, 1295, 1286, 1344].filterMap (fun i => lw_tbl[i]?) := rfl
set_option maxRecDepth 20000 in
theorem cw_10 : MTL10.map (fun m => Jvm.Cond.code m.1 m.2.1 m.2.2.1 m.2.2.2.1) = [1340, 1360, 1356, 1368, 1364, 1388, 1392, 1384, 1404, 1420, 1412, 1408, 1400, 1416, 1376, 1372].filterMap (fun i => lw_tbl[i]?) := rfl
set_option maxRecDepth 20000 in
theorem cw_11 : MTL11.map (fun m => Jvm.Cond.code m.1 m.2.1 m.2.2.1 m.2.2.2.1) = [1432, 1472, 1428, 1424, 1436, 1440, 1444, 1448, 1452, 1456, 1460, 1464, 1468, 1476, 1480, 1492].filterMap (fun i => lw_tbl[i]?) := rfl
set_option maxRecDepth 20000 in
theorem cw_12 : MTL12.map (fun m => Jvm.Cond.code m.1 m.2.1 m.2.2.1 m.2.2.2.1) = [1488, 1484, 1497, 1501, 1513, 1509, 1505, 1517, 1529, 1537, 1525, 1521, 1533, 1541, 1545, 1573].filterMap (fun i => lw_tbl[i]?) := rfl
set_option maxRecDepth 20000 in
theorem cw_13 : MTL13.map (fun m => Jvm.Cond.code m.1 m.2.1 m.2.2.1 m.2.2.2.1) = [1569, 1563, 1582, 1586, 1577, 1590, 1553, 1594, 1549, 1598, 1606, 1610, 1602, 1614, 1626, 1630].filterMap (fun i => lw_tbl[i]?) := rfl
set_option maxRecDepth 20000 in
theorem cw_14 : MTL14.map (fun m => Jvm.Cond.code m.1 m.2.1 m.2.2.1 m.2.2.2.1) = [1634].filterMap (fun i => lw_tbl[i]?) := rfl
theorem mc_0 : MTL0.all mchk = true := by decide +kernel
theorem mc_1 : MTL1.all mchk = true := by decide +kernel
theorem mc_2 : MTL2.all mchk = true := by decide +kernel
theorem mc_3 : MTL3.all mchk = true := by decide +kernel
theorem mc_4 : MTL4.all mchk = true := by decide +kernel
theorem mc_5 : MTL5.all mchk = true := by decide +kernel
theorem mc_6 : MTL6.all mchk = true := by decide +kernel
theorem mc_7 : MTL7.all mchk = true := by decide +kernel
theorem mc_8 : MTL8.all mchk = true := by decide +kernel
theorem mc_9 : MTL9.all mchk = true := by decide +kernel
theorem mc_10 : MTL10.all mchk = true := by decide +kernel
theorem mc_11 : MTL11.all mchk = true := by decide +kernel
theorem mc_12 : MTL12.all mchk = true := by decide +kernel
theorem mc_13 : MTL13.all mchk = true := by decide +kernel
theorem mc_14 : MTL14.all mchk = true := by decide +kernel
end FCM