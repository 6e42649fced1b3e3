/-! calls: the words of each entry of the table; what a call needs of the state moves along -/
theorem gtb_p (ws : List Jvm.Cond) (ps : List Nat) (hp : ws = ps.filterMap (fun i => lw_tbl[i]?)) (h : ws.all goodWord = true) : ∀ w ∈ ws, w ∈ gtb := by
  intro w hw
  refine List.mem_filter.mpr ⟨?_, List.all_eq_true.mp h w hw⟩
  rw [hp] at hw
  obtain ⟨i, -, hi⟩ := List.mem_filterMap.mp hw
  exact List.mem_of_getElem? hi
theorem nm_all : ∀ z, z < 252 → (nmo z).cls = onm (ow z) ∧ (nmo z).cls ≠ "java/lang/invoke/MethodHandle" ∧ (nmo z).cls ≠ "java/lang/invoke/VarHandle" := by decide +kernel
theorem nm_plain : ∀ z, z < 252 → plainName (nmo z).cls = true ∨ (nmo z).cls = "java/lang/Math" := by decide +kernel
def lkW (q : TbK × Nat × Nat × Nat × Nat) : List Jvm.Cond :=
  match q.2.1 with
  | 0 => [.methodLink (onm q.1.1) q.1.2 (nmo q.2.2.1), .instanceMethod (nmo q.2.2.1), .selects (nmo q.2.2.1).cls (nmo q.2.2.1) (nmo q.2.2.1), .initialized (nmo q.2.2.1).cls]
  | 1 => [.methodLink (onm q.1.1) q.1.2 (nmo q.2.2.1), .static (nmo q.2.2.1), .initialized (nmo q.2.2.1).cls]
  | 2 => [.methodLink (onm q.1.1) q.1.2 (nmo q.2.2.1), .instanceMethod (nmo q.2.2.1), .initialized (nmo q.2.2.1).cls]
  | 4 => [.static (nmo q.2.2.1), .initialized (nmo q.2.2.1).cls]
  | 5 => [.instanceMethod (nmo q.2.2.1), .initialized (nmo q.2.2.1).cls]
  | 6 => [.methodLink (onm q.1.1) q.1.2 objectInit, .instanceMethod objectInit, .code objectInit ⟨#[0xb1]⟩ 1 none]
  | 7 => [.methodLink (onm q.1.1) q.1.2 arraycopyName, .native arraycopyName, .static arraycopyName, .initialized "java/lang/System"]
  | 8 => [.methodLink (onm q.1.1) q.1.2 Lib.Math.max.name, .static Lib.Math.max.name, .initialized "java/lang/Math", .code Lib.Math.max.name Lib.Math.max.code 2 (some .int)]
  | 9 => [.methodLink (onm q.1.1) q.1.2 Lib.Math.min.name, .static Lib.Math.min.name, .initialized "java/lang/Math", .code Lib.Math.min.name Lib.Math.min.code 2 (some .int)]
  | _ => []
def clB (q : TbK × Nat × Nat × Nat × Nat) : Bool := decide (q.2.1 ≤ 9) && decide (q.2.1 ≠ 3) && (decide (6 ≤ q.2.1) || (decide (q.2.2.1 < 251) && decide (plainName (nmo q.2.2.1).cls = true) && decide ((parseMethodDescriptor (nmo q.2.2.1).desc).map (fun d => d.parameters.length) = some q.2.2.2.1) && (!(decide (q.2.1 = 2 ∨ q.2.1 = 5)) || (decide ((nmo q.2.2.1).name = "<init>") && (rty q.2.2.1).isNone))))
theorem clB_ok : clT.all clB = true := by decide +kernel
def clN (q : TbK × Nat × Nat × Nat × Nat) : Bool := !(decide (q.2.1 = 4 ∨ q.2.1 = 5)) || decide (lw_tbl[q.2.2.2.2]? = some (.methodLinkNest (onm q.1.1) q.1.2 (nmo q.2.2.1) "BootSale"))
theorem clN_ok : clT.all clN = true := by decide +kernel
theorem clP_ok : clT.all (fun q => decide (q.2.1 = 8 ∨ q.2.1 = 9) || decide (q.2.1 = q.2.1)) = true := by decide +kernel
set_option maxRecDepth 100000 in
set_option maxHeartbeats 8000000 in
theorem lk_0 : ∀ w ∈ clT_0.flatMap lkW, w ∈ gtb := gtb_p _ [156, 87, 88, 621, 622, 80, 627, 628, 70, 383, 67, 799, 388, 75, 389, 594, 67, 635, 637, 14, 70, 639, 641, 15, 70, 645, 647, 16, 70, 644, 590, 591, 68, 655, 657, 18, 70, 643, 581, 582, 68, 649, 651, 17, 70, 309, 67, 263, 87, 88, 309, 67, 94, 87, 88, 460, 346, 345, 74, 816, 817, 818, 68, 584, 391, 75, 392, 594, 67, 232, 87, 88, 465, 467, 4, 71, 470, 472, 5, 71, 475, 477, 6, 71, 527, 529, 7, 71, 540, 542, 9, 71, 548, 550, 10, 71, 554, 556, 11, 71, 533, 535, 8, 71, 538, 405, 406, 68, 546, 420, 421, 68, 309, 67, 479, 480, 481, 76, 489, 490, 491, 76, 148, 87, 88, 92, 68, 154, 70, 616, 457, 458, 68, 617, 618, 619, 70] rfl (by decide +kernel)
set_option maxRecDepth 100000 in
set_option maxHeartbeats 8000000 in
theorem lk_1 : ∀ w ∈ clT_1.flatMap lkW, w ∈ gtb := gtb_p _ [631, 632, 633, 70, 612, 613, 614, 69, 775, 776, 777, 70, 697, 698, 699, 69, 716, 718, 19, 69, 701, 702, 703, 70, 705, 391, 75, 392, 594, 67, 756, 693, 694, 69, 86, 87, 88, 92, 68, 146, 69, 230, 71, 261, 72, 304, 306, 0, 67, 308, 309, 67, 311, 313, 1, 67, 315, 316, 317, 72, 323, 325, 2, 67, 336, 337, 338, 72, 331, 332, 333, 72, 327, 328, 329, 72, 344, 346, 345, 74, 359, 361, 3, 67, 367, 368, 369, 72, 371, 372, 67, 376, 377, 67, 397, 398, 67, 404, 405, 406, 68, 412, 413, 67, 419, 420, 421, 68, 427, 428, 67, 456, 457, 458, 68, 461, 462, 463, 71, 572, 574, 12, 67, 580, 581, 582, 68, 589, 590, 591, 68, 382, 383, 67, 604, 606, 13, 67, 663, 664, 665, 70] rfl (by decide +kernel)
set_option maxRecDepth 100000 in
set_option maxHeartbeats 8000000 in
theorem lk_2 : ∀ w ∈ clT_2.flatMap lkW, w ∈ gtb := gtb_p _ [608, 609, 610, 69, 691, 613, 614, 69, 692, 693, 694, 69, 710, 711, 712, 69, 724, 725, 726, 69, 734, 735, 736, 69, 747, 749, 20, 67, 752, 753, 754, 69, 757, 698, 699, 69, 762, 764, 21, 67, 767, 769, 22, 67, 787, 788, 789, 68, 795, 796, 797, 70, 379, 380, 67, 808, 810, 23, 67, 828, 829, 830, 68, 836, 817, 818, 68, 820, 821, 822, 69, 849, 851, 24, 67, 853, 855, 25, 67, 861, 863, 26, 67, 865, 866, 867, 68, 766, 594, 67, 812, 813, 814, 68, 877, 879, 27, 67, 885, 886, 887, 68, 894, 895, 67, 917, 919, 28, 67, 771, 772, 773, 69, 390, 391, 75, 392, 387, 388, 75, 389, 926, 87, 88, 1060, 1061, 73, 1065, 1067, 29, 73, 1073, 1075, 30, 73, 1077, 1078, 73, 1096, 1098, 31, 73, 1105, 1106, 73, 1108, 1109, 73, 1120, 1122, 32, 73] rfl (by decide +kernel)
set_option maxRecDepth 100000 in
set_option maxHeartbeats 8000000 in
theorem lk_3 : ∀ w ∈ clT_3.flatMap lkW, w ∈ gtb := gtb_p _ [1128, 1129, 73, 1133, 1135, 33, 73, 1146, 1147, 73, 1153, 1154, 73, 1156, 1157, 73, 1193, 1194, 73, 1196, 1197, 73, 1209, 480, 481, 76, 1210, 490, 491, 76, 1223, 1225, 43, 73, 1189, 1191, 37, 73, 1219, 1221, 42, 73, 1215, 1217, 41, 73, 1205, 1207, 39, 73, 1211, 1213, 40, 73, 1230, 1232, 44, 73, 1236, 1238, 45, 73, 1200, 1202, 38, 73, 1172, 1174, 34, 73, 1185, 1187, 36, 73, 1178, 1180, 35, 73, 1251, 1253, 46, 73, 1260, 1262, 47, 73, 1268, 1270, 48, 73, 1272, 1274, 49, 73, 1111, 1112, 73, 1293, 1295, 52, 73, 1289, 1291, 51, 73, 1285, 1287, 50, 73, 1317, 1319, 53, 73, 1325, 1327, 54, 73, 1333, 1335, 55, 73, 1345, 1347, 56, 73, 1177, 924, 73, 1362, 1364, 57, 73, 1370, 1372, 58, 73, 1374, 1376, 59, 73, 1398, 1400, 60, 73, 1406, 1408, 61, 73, 1426, 1428, 62, 73] rfl (by decide +kernel)
set_option maxRecDepth 100000 in
set_option maxHeartbeats 8000000 in
theorem lk_4 : ∀ w ∈ clT_4.flatMap lkW, w ∈ gtb := gtb_p _ [1430, 1432, 63, 73, 1438, 1440, 64, 73, 1455, 1457, 65, 73, 1182, 1183, 73, 483, 484, 485, 76, 493, 494, 495, 76, 497, 498, 77, 508, 509, 79, 505, 506, 78, 500, 501, 76, 514, 515, 79, 511, 512, 79, 518, 519, 79, 517, 501, 76, 83, 84, 67, 923, 924, 73, 300, 301, 302, 67, 1055, 1056, 1057, 73, 319, 320, 321, 67, 1069, 1070, 1071, 73, 340, 341, 342, 67, 1080, 1081, 1082, 73, 347, 348, 349, 67, 1084, 1085, 1086, 73, 351, 352, 353, 67, 1088, 1089, 1090, 73, 355, 356, 357, 67, 1092, 1093, 1094, 73, 363, 364, 365, 67, 1100, 1101, 1102, 73, 393, 394, 395, 67, 1114, 1115, 1116, 73, 408, 409, 410, 67, 1124, 1125, 1126, 73, 423, 424, 425, 67, 1137, 1138, 1139, 73, 430, 431, 432, 67, 1142, 1143, 1144, 73, 436, 437, 438, 67, 1149, 1150, 1151, 73] rfl (by decide +kernel)
set_option maxRecDepth 100000 in
set_option maxHeartbeats 8000000 in
theorem lk_5 : ∀ w ∈ clT_5.flatMap lkW, w ∈ gtb := gtb_p _ [444, 445, 446, 67, 1159, 1160, 1161, 73, 448, 449, 450, 67, 1164, 1165, 1166, 73, 452, 453, 454, 67, 1168, 1169, 1170, 73, 564, 565, 566, 67, 1243, 1244, 1245, 73, 568, 569, 570, 67, 1247, 1248, 1249, 73, 576, 577, 578, 67, 1256, 1257, 1258, 73, 585, 586, 587, 67, 1264, 1265, 1266, 73, 596, 597, 598, 67, 1276, 1277, 1278, 73, 600, 601, 602, 67, 1281, 1282, 1283, 73, 659, 660, 661, 67, 1297, 1298, 1299, 73, 667, 668, 669, 67, 1301, 1302, 1303, 73, 671, 672, 673, 67, 1305, 1306, 1307, 73, 675, 676, 677, 67, 1309, 1310, 1311, 73, 679, 680, 681, 67, 1313, 1314, 1315, 73, 683, 684, 685, 67, 1321, 1322, 1323, 73, 687, 688, 689, 67, 1329, 1330, 1331, 73, 706, 707, 708, 67, 1341, 1342, 1343, 73, 720, 721, 722, 67, 1337, 1338, 1339, 73, 730, 731, 732, 67, 1353, 1354, 1355, 73, 739, 740, 741, 67, 1349, 1350, 1351, 73] rfl (by decide +kernel)
set_option maxRecDepth 100000 in
set_option maxHeartbeats 8000000 in
theorem lk_6 : ∀ w ∈ clT_6.flatMap lkW, w ∈ gtb := gtb_p _ [743, 744, 745, 67, 1357, 1358, 1359, 73, 758, 759, 760, 67, 1366, 1367, 1368, 73, 779, 780, 781, 67, 1378, 1379, 1380, 73, 783, 784, 785, 67, 1382, 1383, 1384, 73, 791, 792, 793, 67, 1386, 1387, 1388, 73, 800, 801, 802, 67, 1390, 1391, 1392, 73, 804, 805, 806, 67, 1394, 1395, 1396, 73, 824, 825, 826, 67, 1402, 1403, 1404, 73, 832, 833, 834, 67, 1410, 1411, 1412, 73, 837, 838, 839, 67, 1414, 1415, 1416, 73, 841, 842, 843, 67, 1418, 1419, 1420, 73, 845, 846, 847, 67, 1422, 1423, 1424, 73, 857, 858, 859, 67, 1434, 1435, 1436, 73, 869, 870, 871, 67, 1442, 1443, 1444, 73, 873, 874, 875, 67, 1446, 1447, 1448, 73, 881, 882, 883, 67, 1450, 1451, 1452, 73, 890, 891, 892, 67, 1460, 1461, 1462, 73, 897, 898, 899, 67, 1464, 1465, 1466, 73, 901, 902, 903, 67, 1468, 1469, 1470, 73, 905, 906, 907, 67, 1472, 1473, 1474, 73] rfl (by decide +kernel)
set_option maxRecDepth 100000 in
set_option maxHeartbeats 8000000 in
theorem lk_7 : ∀ w ∈ clT_7.flatMap lkW, w ∈ gtb := gtb_p _ [909, 910, 911, 67, 1476, 1477, 1478, 73, 913, 914, 915, 67, 1480, 1481, 1482, 73] rfl (by decide +kernel)
theorem lk_all : ∀ q ∈ clT, ∀ w ∈ lkW q, w ∈ gtb := by
  intro q hq w hw
  unfold clT at hq
  simp only [List.mem_append] at hq
  rcases hq with h | h | h | h | h | h | h | h
  · exact lk_0 w (List.mem_flatMap.mpr ⟨q, h, hw⟩)
  · exact lk_1 w (List.mem_flatMap.mpr ⟨q, h, hw⟩)
  · exact lk_2 w (List.mem_flatMap.mpr ⟨q, h, hw⟩)
  · exact lk_3 w (List.mem_flatMap.mpr ⟨q, h, hw⟩)
  · exact lk_4 w (List.mem_flatMap.mpr ⟨q, h, hw⟩)
  · exact lk_5 w (List.mem_flatMap.mpr ⟨q, h, hw⟩)
  · exact lk_6 w (List.mem_flatMap.mpr ⟨q, h, hw⟩)
  · exact lk_7 w (List.mem_flatMap.mpr ⟨q, h, hw⟩)
set_option maxRecDepth 100000 in
set_option maxHeartbeats 8000000 in
theorem ck_0 : ∀ w ∈ (List.range' 0 50).map (fun z => Jvm.Cond.code (nmo z) (bts z) (mxl z) (rty z)), w ∈ gtb := gtb_p _ [155, 620, 629, 798, 778, 666, 704, 634, 638, 642, 648, 652, 658, 262, 370, 334, 330, 318, 339, 93, 459, 407, 422, 819, 815, 831, 790, 868, 583, 592, 888, 231, 464, 473, 530, 543, 551, 557, 536, 478, 468, 147, 615, 700, 611, 823, 774, 719, 713, 727] rfl (by decide +kernel)
set_option maxRecDepth 100000 in
set_option maxHeartbeats 8000000 in
theorem ck_1 : ∀ w ∈ (List.range' 50 50).map (fun z => Jvm.Cond.code (nmo z) (bts z) (mxl z) (rty z)), w ∈ gtb := gtb_p _ [695, 737, 755, 85, 303, 322, 343, 350, 354, 358, 366, 396, 411, 426, 433, 439, 447, 451, 455, 567, 571, 579, 588, 599, 603, 662, 670, 674, 678, 682, 686, 690, 709, 723, 733, 742, 746, 761, 782, 786, 794, 803, 807, 827, 835, 840, 844, 848, 860, 872] rfl (by decide +kernel)
set_option maxRecDepth 100000 in
set_option maxHeartbeats 8000000 in
theorem ck_2 : ∀ w ∈ (List.range' 100 50).map (fun z => Jvm.Cond.code (nmo z) (bts z) (mxl z) (rty z)), w ∈ gtb := gtb_p _ [876, 884, 893, 900, 904, 908, 912, 916, 314, 750, 307, 362, 575, 326, 852, 864, 856, 765, 770, 811, 607, 880, 920, 310, 399, 414, 429, 595, 896, 373, 381, 378, 384, 925, 1068, 1062, 1099, 1254, 1058, 1079, 1076, 1072, 1083, 1087, 1091, 1095, 1107, 1103, 1123, 1117] rfl (by decide +kernel)
set_option maxRecDepth 100000 in
set_option maxHeartbeats 8000000 in
theorem ck_3 : ∀ w ∈ (List.range' 150 50).map (fun z => Jvm.Cond.code (nmo z) (bts z) (mxl z) (rty z)), w ∈ gtb := gtb_p _ [1130, 1136, 1127, 1140, 1148, 1145, 1158, 1155, 1152, 1162, 1167, 1195, 1198, 1192, 1226, 1208, 1222, 1218, 1214, 1233, 1239, 1203, 1188, 1171, 1246, 1250, 1263, 1259, 1275, 1271, 1267, 1113, 1110, 1279, 1296, 1292, 1288, 1320, 1328, 1284, 1300, 1304, 1308, 1312, 1316, 1324, 1336, 1332, 1340, 1348] rfl (by decide +kernel)
set_option maxRecDepth 100000 in
set_option maxHeartbeats 8000000 in
theorem ck_4 : ∀ w ∈ (List.range' 200 50).map (fun z => Jvm.Cond.code (nmo z) (bts z) (mxl z) (rty z)), w ∈ gtb := gtb_p _ [1344, 1352, 1356, 1365, 1360, 1373, 1377, 1369, 1381, 1385, 1389, 1393, 1401, 1397, 1409, 1405, 1413, 1417, 1421, 1429, 1433, 1425, 1441, 1437, 1445, 1449, 1458, 1453, 1463, 1467, 1471, 1175, 1184, 1181, 1475, 1479, 1483, 623, 392, 389, 482, 492, 486, 496, 502, 499, 520, 516, 510, 513] rfl (by decide +kernel)
set_option maxRecDepth 100000 in
set_option maxHeartbeats 8000000 in
theorem ck_5 : ∀ w ∈ (List.range' 250 1).map (fun z => Jvm.Cond.code (nmo z) (bts z) (mxl z) (rty z)), w ∈ gtb := gtb_p _ [507] rfl (by decide +kernel)
theorem ck_all (z : Nat) (h : z < 251) : Jvm.Cond.code (nmo z) (bts z) (mxl z) (rty z) ∈ gtb := by
  have key : (0 ≤ z ∧ z < 50) ∨ (50 ≤ z ∧ z < 100) ∨ (100 ≤ z ∧ z < 150) ∨ (150 ≤ z ∧ z < 200) ∨ (200 ≤ z ∧ z < 250) ∨ (250 ≤ z ∧ z < 251) := by omega
  rcases key with h | h | h | h | h | h
  · exact ck_0 _ (List.mem_map.mpr ⟨z, List.mem_range'_1.mpr (by omega), rfl⟩)
  · exact ck_1 _ (List.mem_map.mpr ⟨z, List.mem_range'_1.mpr (by omega), rfl⟩)
  · exact ck_2 _ (List.mem_map.mpr ⟨z, List.mem_range'_1.mpr (by omega), rfl⟩)
  · exact ck_3 _ (List.mem_map.mpr ⟨z, List.mem_range'_1.mpr (by omega), rfl⟩)
  · exact ck_4 _ (List.mem_map.mpr ⟨z, List.mem_range'_1.mpr (by omega), rfl⟩)
  · exact ck_5 _ (List.mem_map.mpr ⟨z, List.mem_range'_1.mpr (by omega), rfl⟩)
