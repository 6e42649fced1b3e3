/-! calls: the words of each entry of the table; what a call needs of the state moves along -/
theorem gtb_p (ws : List Jvm.Cond) (ps : List Nat) (hp : ws = ps.filterMap (fun i => lw_tbl[i]?)) (h : ws.all goodWord = true) : ∀ w ∈ ws, w ∈ gtb := by
  intro w hw
  refine List.mem_filter.mpr ⟨?_, List.all_eq_true.mp h w hw⟩
  rw [hp] at hw
  obtain ⟨i, -, hi⟩ := List.mem_filterMap.mp hw
  exact List.mem_of_getElem? hi
theorem nm_all : ∀ z, z < 252 → (nmo z).cls = onm (ow z) ∧ (nmo z).cls ≠ "java/lang/invoke/MethodHandle" ∧ (nmo z).cls ≠ "java/lang/invoke/VarHandle" := by decide +kernel
theorem nm_plain : ∀ z, z < 252 → plainName (nmo z).cls = true ∨ (nmo z).cls = "java/lang/Math" := by decide +kernel
def lkW (q : TbK × Nat × Nat × Nat × Nat) : List Jvm.Cond :=
  match q.2.1 with
  | 0 => [.methodLink (onm q.1.1) q.1.2 (nmo q.2.2.1), .instanceMethod (nmo q.2.2.1), .selects (nmo q.2.2.1).cls (nmo q.2.2.1) (nmo q.2.2.1), .initialized (nmo q.2.2.1).cls]
  | 1 => [.methodLink (onm q.1.1) q.1.2 (nmo q.2.2.1), .static (nmo q.2.2.1), .initialized (nmo q.2.2.1).cls]
  | 2 => [.methodLink (onm q.1.1) q.1.2 (nmo q.2.2.1), .instanceMethod (nmo q.2.2.1), .initialized (nmo q.2.2.1).cls]
  | 4 => [.static (nmo q.2.2.1), .initialized (nmo q.2.2.1).cls]
  | 5 => [.instanceMethod (nmo q.2.2.1), .initialized (nmo q.2.2.1).cls]
  | 6 => [.methodLink (onm q.1.1) q.1.2 objectInit, .instanceMethod objectInit, .code objectInit ⟨#[0xb1]⟩ 1 none]
  | 7 => [.methodLink (onm q.1.1) q.1.2 arraycopyName, .native arraycopyName, .static arraycopyName, .initialized "java/lang/System"]
  | 8 => [.methodLink (onm q.1.1) q.1.2 Lib.Math.max.name, .static Lib.Math.max.name, .initialized "java/lang/Math", .code Lib.Math.max.name Lib.Math.max.code 2 (some .int)]
  | 9 => [.methodLink (onm q.1.1) q.1.2 Lib.Math.min.name, .static Lib.Math.min.name, .initialized "java/lang/Math", .code Lib.Math.min.name Lib.Math.min.code 2 (some .int)]
  | _ => []
def clB (q : TbK × Nat × Nat × Nat × Nat) : Bool := decide (q.2.1 ≤ 9) && decide (q.2.1 ≠ 3) && (decide (6 ≤ q.2.1) || (decide (q.2.2.1 < 251) && decide (plainName (nmo q.2.2.1).cls = true) && decide ((parseMethodDescriptor (nmo q.2.2.1).desc).map (fun d => d.parameters.length) = some q.2.2.2.1) && (!(decide (q.2.1 = 2 ∨ q.2.1 = 5)) || (decide ((nmo q.2.2.1).name = "<init>") && (rty q.2.2.1).isNone))))
theorem clB_ok : clT.all clB = true := by decide +kernel
def clN (q : TbK × Nat × Nat × Nat × Nat) : Bool := !(decide (q.2.1 = 4 ∨ q.2.1 = 5)) || decide (lw_tbl[q.2.2.2.2]? = some (.methodLinkNest (onm q.1.1) q.1.2 (nmo q.2.2.1) "BootSale"))
theorem clN_ok : clT.all clN = true := by decide +kernel
theorem clP_ok : clT.all (fun q => decide (q.2.1 = 8 ∨ q.2.1 = 9) || decide (q.2.1 = q.2.1)) = true := by decide +kernel
set_option maxRecDepth 100000 in
set_option maxHeartbeats 8000000 in
theorem lk_0 : ∀ w ∈ clT_0.flatMap lkW, w ∈ gtb := gtb_p _ [156, 87, 88, 621, 622, 80, 627, 628, 70, 383, 67, 798, 388, 75, 389, 594, 67, 635, 637, 14, 70, 639, 641, 15, 70, 645, 647, 16, 70, 644, 590, 591, 68, 655, 657, 18, 70, 643, 581, 582, 68, 649, 651, 17, 70, 309, 67, 263, 87, 88, 309, 67, 94, 87, 88, 460, 346, 345, 74, 815, 816, 817, 68, 584, 391, 75, 392, 594, 67, 232, 87, 88, 465, 467, 4, 71, 470, 472, 5, 71, 475, 477, 6, 71, 527, 529, 7, 71, 540, 542, 9, 71, 548, 550, 10, 71, 554, 556, 11, 71, 533, 535, 8, 71, 538, 405, 406, 68, 546, 420, 421, 68, 309, 67, 479, 480, 481, 76, 489, 490, 491, 76, 148, 87, 88, 92, 68, 154, 70, 616, 457, 458, 68, 617, 618, 619, 70] rfl (by decide +kernel)
set_option maxRecDepth 100000 in
set_option maxHeartbeats 8000000 in
theorem lk_1 : ∀ w ∈ clT_1.flatMap lkW, w ∈ gtb := gtb_p _ [631, 632, 633, 70, 612, 613, 614, 69, 774, 775, 776, 70, 696, 697, 698, 69, 715, 717, 19, 69, 700, 701, 702, 70, 704, 391, 75, 392, 594, 67, 755, 693, 694, 69, 86, 87, 88, 92, 68, 146, 69, 230, 71, 261, 72, 304, 306, 0, 67, 308, 309, 67, 311, 313, 1, 67, 315, 316, 317, 72, 323, 325, 2, 67, 336, 337, 338, 72, 331, 332, 333, 72, 327, 328, 329, 72, 344, 346, 345, 74, 359, 361, 3, 67, 367, 368, 369, 72, 371, 372, 67, 376, 377, 67, 397, 398, 67, 404, 405, 406, 68, 412, 413, 67, 419, 420, 421, 68, 427, 428, 67, 456, 457, 458, 68, 461, 462, 463, 71, 572, 574, 12, 67, 580, 581, 582, 68, 589, 590, 591, 68, 382, 383, 67, 604, 606, 13, 67, 663, 664, 665, 70] rfl (by decide +kernel)
set_option maxRecDepth 100000 in
set_option maxHeartbeats 8000000 in
theorem lk_2 : ∀ w ∈ clT_2.flatMap lkW, w ∈ gtb := gtb_p _ [608, 609, 610, 69, 691, 613, 614, 69, 692, 693, 694, 69, 709, 710, 711, 69, 723, 724, 725, 69, 733, 734, 735, 69, 746, 748, 20, 67, 751, 752, 753, 69, 756, 697, 698, 69, 761, 763, 21, 67, 766, 768, 22, 67, 786, 787, 788, 68, 794, 795, 796, 70, 379, 380, 67, 807, 809, 23, 67, 827, 828, 829, 68, 835, 816, 817, 68, 819, 820, 821, 69, 848, 850, 24, 67, 852, 854, 25, 67, 860, 862, 26, 67, 864, 865, 866, 68, 765, 594, 67, 811, 812, 813, 68, 876, 878, 27, 67, 884, 885, 886, 68, 893, 894, 67, 916, 918, 28, 67, 770, 771, 772, 69, 390, 391, 75, 392, 387, 388, 75, 389, 925, 87, 88, 1059, 1060, 73, 1064, 1066, 29, 73, 1072, 1074, 30, 73, 1076, 1077, 73, 1095, 1097, 31, 73, 1104, 1105, 73, 1107, 1108, 73, 1119, 1121, 32, 73] rfl (by decide +kernel)
set_option maxRecDepth 100000 in
set_option maxHeartbeats 8000000 in
theorem lk_3 : ∀ w ∈ clT_3.flatMap lkW, w ∈ gtb := gtb_p _ [1127, 1128, 73, 1132, 1134, 33, 73, 1145, 1146, 73, 1152, 1153, 73, 1155, 1156, 73, 1192, 1193, 73, 1195, 1196, 73, 1208, 480, 481, 76, 1209, 490, 491, 76, 1222, 1224, 43, 73, 1188, 1190, 37, 73, 1218, 1220, 42, 73, 1214, 1216, 41, 73, 1204, 1206, 39, 73, 1210, 1212, 40, 73, 1229, 1231, 44, 73, 1235, 1237, 45, 73, 1199, 1201, 38, 73, 1171, 1173, 34, 73, 1184, 1186, 36, 73, 1177, 1179, 35, 73, 1250, 1252, 46, 73, 1259, 1261, 47, 73, 1267, 1269, 48, 73, 1271, 1273, 49, 73, 1110, 1111, 73, 1292, 1294, 52, 73, 1288, 1290, 51, 73, 1284, 1286, 50, 73, 1316, 1318, 53, 73, 1324, 1326, 54, 73, 1332, 1334, 55, 73, 1344, 1346, 56, 73, 1176, 923, 73, 1361, 1363, 57, 73, 1369, 1371, 58, 73, 1373, 1375, 59, 73, 1397, 1399, 60, 73, 1405, 1407, 61, 73, 1425, 1427, 62, 73] rfl (by decide +kernel)
set_option maxRecDepth 100000 in
set_option maxHeartbeats 8000000 in
theorem lk_4 : ∀ w ∈ clT_4.flatMap lkW, w ∈ gtb := gtb_p _ [1429, 1431, 63, 73, 1437, 1439, 64, 73, 1454, 1456, 65, 73, 1181, 1182, 73, 483, 484, 485, 76, 493, 494, 495, 76, 497, 498, 77, 508, 509, 79, 505, 506, 78, 500, 501, 76, 514, 515, 79, 511, 512, 79, 518, 519, 79, 517, 501, 76, 83, 84, 67, 922, 923, 73, 300, 301, 302, 67, 1054, 1055, 1056, 73, 319, 320, 321, 67, 1068, 1069, 1070, 73, 340, 341, 342, 67, 1079, 1080, 1081, 73, 347, 348, 349, 67, 1083, 1084, 1085, 73, 351, 352, 353, 67, 1087, 1088, 1089, 73, 355, 356, 357, 67, 1091, 1092, 1093, 73, 363, 364, 365, 67, 1099, 1100, 1101, 73, 393, 394, 395, 67, 1113, 1114, 1115, 73, 408, 409, 410, 67, 1123, 1124, 1125, 73, 423, 424, 425, 67, 1136, 1137, 1138, 73, 430, 431, 432, 67, 1141, 1142, 1143, 73, 436, 437, 438, 67, 1148, 1149, 1150, 73] rfl (by decide +kernel)
set_option maxRecDepth 100000 in
set_option maxHeartbeats 8000000 in
theorem lk_5 : ∀ w ∈ clT_5.flatMap lkW, w ∈ gtb := gtb_p _ [444, 445, 446, 67, 1158, 1159, 1160, 73, 448, 449, 450, 67, 1163, 1164, 1165, 73, 452, 453, 454, 67, 1167, 1168, 1169, 73, 564, 565, 566, 67, 1242, 1243, 1244, 73, 568, 569, 570, 67, 1246, 1247, 1248, 73, 576, 577, 578, 67, 1255, 1256, 1257, 73, 585, 586, 587, 67, 1263, 1264, 1265, 73, 596, 597, 598, 67, 1275, 1276, 1277, 73, 600, 601, 602, 67, 1280, 1281, 1282, 73, 659, 660, 661, 67, 1296, 1297, 1298, 73, 667, 668, 669, 67, 1300, 1301, 1302, 73, 671, 672, 673, 67, 1304, 1305, 1306, 73, 675, 676, 677, 67, 1308, 1309, 1310, 73, 679, 680, 681, 67, 1312, 1313, 1314, 73, 683, 684, 685, 67, 1320, 1321, 1322, 73, 687, 688, 689, 67, 1328, 1329, 1330, 73, 705, 706, 707, 67, 1340, 1341, 1342, 73, 719, 720, 721, 67, 1336, 1337, 1338, 73, 729, 730, 731, 67, 1352, 1353, 1354, 73, 738, 739, 740, 67, 1348, 1349, 1350, 73] rfl (by decide +kernel)
set_option maxRecDepth 100000 in
set_option maxHeartbeats 8000000 in
theorem lk_6 : ∀ w ∈ clT_6.flatMap lkW, w ∈ gtb := gtb_p _ [742, 743, 744, 67, 1356, 1357, 1358, 73, 757, 758, 759, 67, 1365, 1366, 1367, 73, 778, 779, 780, 67, 1377, 1378, 1379, 73, 782, 783, 784, 67, 1381, 1382, 1383, 73, 790, 791, 792, 67, 1385, 1386, 1387, 73, 799, 800, 801, 67, 1389, 1390, 1391, 73, 803, 804, 805, 67, 1393, 1394, 1395, 73, 823, 824, 825, 67, 1401, 1402, 1403, 73, 831, 832, 833, 67, 1409, 1410, 1411, 73, 836, 837, 838, 67, 1413, 1414, 1415, 73, 840, 841, 842, 67, 1417, 1418, 1419, 73, 844, 845, 846, 67, 1421, 1422, 1423, 73, 856, 857, 858, 67, 1433, 1434, 1435, 73, 868, 869, 870, 67, 1441, 1442, 1443, 73, 872, 873, 874, 67, 1445, 1446, 1447, 73, 880, 881, 882, 67, 1449, 1450, 1451, 73, 889, 890, 891, 67, 1459, 1460, 1461, 73, 896, 897, 898, 67, 1463, 1464, 1465, 73, 900, 901, 902, 67, 1467, 1468, 1469, 73, 904, 905, 906, 67, 1471, 1472, 1473, 73] rfl (by decide +kernel)
set_option maxRecDepth 100000 in
set_option maxHeartbeats 8000000 in
theorem lk_7 : ∀ w ∈ clT_7.flatMap lkW, w ∈ gtb := gtb_p _ [908, 909, 910, 67, 1475, 1476, 1477, 73, 912, 913, 914, 67, 1479, 1480, 1481, 73] rfl (by decide +kernel)
theorem lk_all : ∀ q ∈ clT, ∀ w ∈ lkW q, w ∈ gtb := by
  intro q hq w hw
  unfold clT at hq
  simp only [List.mem_append] at hq
  rcases hq with h | h | h | h | h | h | h | h
  · exact lk_0 w (List.mem_flatMap.mpr ⟨q, h, hw⟩)
  · exact lk_1 w (List.mem_flatMap.mpr ⟨q, h, hw⟩)
  · exact lk_2 w (List.mem_flatMap.mpr ⟨q, h, hw⟩)
  · exact lk_3 w (List.mem_flatMap.mpr ⟨q, h, hw⟩)
  · exact lk_4 w (List.mem_flatMap.mpr ⟨q, h, hw⟩)
  · exact lk_5 w (List.mem_flatMap.mpr ⟨q, h, hw⟩)
  · exact lk_6 w (List.mem_flatMap.mpr ⟨q, h, hw⟩)
  · exact lk_7 w (List.mem_flatMap.mpr ⟨q, h, hw⟩)
set_option maxRecDepth 100000 in
set_option maxHeartbeats 8000000 in
theorem ck_0 : ∀ w ∈ (List.range' 0 50).map (fun z => Jvm.Cond.code (nmo z) (bts z) (mxl z) (rty z)), w ∈ gtb := gtb_p _ [155, 620, 629, 797, 777, 666, 703, 634, 638, 642, 648, 652, 658, 262, 370, 334, 330, 318, 339, 93, 459, 407, 422, 818, 814, 830, 789, 867, 583, 592, 887, 231, 464, 473, 530, 543, 551, 557, 536, 478, 468, 147, 615, 699, 611, 822, 773, 718, 712, 726] rfl (by decide +kernel)
set_option maxRecDepth 100000 in
set_option maxHeartbeats 8000000 in
theorem ck_1 : ∀ w ∈ (List.range' 50 50).map (fun z => Jvm.Cond.code (nmo z) (bts z) (mxl z) (rty z)), w ∈ gtb := gtb_p _ [695, 736, 754, 85, 303, 322, 343, 350, 354, 358, 366, 396, 411, 426, 433, 439, 447, 451, 455, 567, 571, 579, 588, 599, 603, 662, 670, 674, 678, 682, 686, 690, 708, 722, 732, 741, 745, 760, 781, 785, 793, 802, 806, 826, 834, 839, 843, 847, 859, 871] rfl (by decide +kernel)
set_option maxRecDepth 100000 in
set_option maxHeartbeats 8000000 in
theorem ck_2 : ∀ w ∈ (List.range' 100 50).map (fun z => Jvm.Cond.code (nmo z) (bts z) (mxl z) (rty z)), w ∈ gtb := gtb_p _ [875, 883, 892, 899, 903, 907, 911, 915, 314, 749, 307, 362, 575, 326, 851, 863, 855, 764, 769, 810, 607, 879, 919, 310, 399, 414, 429, 595, 895, 373, 381, 378, 384, 924, 1067, 1061, 1098, 1253, 1057, 1078, 1075, 1071, 1082, 1086, 1090, 1094, 1106, 1102, 1122, 1116] rfl (by decide +kernel)
set_option maxRecDepth 100000 in
set_option maxHeartbeats 8000000 in
theorem ck_3 : ∀ w ∈ (List.range' 150 50).map (fun z => Jvm.Cond.code (nmo z) (bts z) (mxl z) (rty z)), w ∈ gtb := gtb_p _ [1129, 1135, 1126, 1139, 1147, 1144, 1157, 1154, 1151, 1161, 1166, 1194, 1197, 1191, 1225, 1207, 1221, 1217, 1213, 1232, 1238, 1202, 1187, 1170, 1245, 1249, 1262, 1258, 1274, 1270, 1266, 1112, 1109, 1278, 1295, 1291, 1287, 1319, 1327, 1283, 1299, 1303, 1307, 1311, 1315, 1323, 1335, 1331, 1339, 1347] rfl (by decide +kernel)
set_option maxRecDepth 100000 in
set_option maxHeartbeats 8000000 in
theorem ck_4 : ∀ w ∈ (List.range' 200 50).map (fun z => Jvm.Cond.code (nmo z) (bts z) (mxl z) (rty z)), w ∈ gtb := gtb_p _ [1343, 1351, 1355, 1364, 1359, 1372, 1376, 1368, 1380, 1384, 1388, 1392, 1400, 1396, 1408, 1404, 1412, 1416, 1420, 1428, 1432, 1424, 1440, 1436, 1444, 1448, 1457, 1452, 1462, 1466, 1470, 1174, 1183, 1180, 1474, 1478, 1482, 623, 392, 389, 482, 492, 486, 496, 502, 499, 520, 516, 510, 513] rfl (by decide +kernel)
set_option maxRecDepth 100000 in
set_option maxHeartbeats 8000000 in
theorem ck_5 : ∀ w ∈ (List.range' 250 1).map (fun z => Jvm.Cond.code (nmo z) (bts z) (mxl z) (rty z)), w ∈ gtb := gtb_p _ [507] rfl (by decide +kernel)
theorem ck_all (z : Nat) (h : z < 251) : Jvm.Cond.code (nmo z) (bts z) (mxl z) (rty z) ∈ gtb := by
  have key : (0 ≤ z ∧ z < 50) ∨ (50 ≤ z ∧ z < 100) ∨ (100 ≤ z ∧ z < 150) ∨ (150 ≤ z ∧ z < 200) ∨ (200 ≤ z ∧ z < 250) ∨ (250 ≤ z ∧ z < 251) := by omega
  rcases key with h | h | h | h | h | h
  · exact ck_0 _ (List.mem_map.mpr ⟨z, List.mem_range'_1.mpr (by omega), rfl⟩)
  · exact ck_1 _ (List.mem_map.mpr ⟨z, List.mem_range'_1.mpr (by omega), rfl⟩)
  · exact ck_2 _ (List.mem_map.mpr ⟨z, List.mem_range'_1.mpr (by omega), rfl⟩)
  · exact ck_3 _ (List.mem_map.mpr ⟨z, List.mem_range'_1.mpr (by omega), rfl⟩)
  · exact ck_4 _ (List.mem_map.mpr ⟨z, List.mem_range'_1.mpr (by omega), rfl⟩)
  · exact ck_5 _ (List.mem_map.mpr ⟨z, List.mem_range'_1.mpr (by omega), rfl⟩)
