theorem k_in {α : Type} {L : List α} {f : α → Cond} (ps : List Nat) (h : L.map f = ps.filterMap (fun i => lw_tbl[i]?)) : ∀ q ∈ L, f q ∈ lw_tbl := by
  intro q hq
  have h1 : f q ∈ L.map f := List.mem_map_of_mem hq
  rw [h] at h1
  obtain ⟨i, -, hi⟩ := List.mem_filterMap.mp h1
  exact List.mem_of_getElem? hi
def k_cLM (q : Nat × Nat × Nat) : Cond := .methodLink (k_cn q.1) q.2.1 (k_y q.2.2)
set_option maxRecDepth 100000 in
theorem k_lm : ∀ q ∈ k_LM, k_cLM q ∈ lw_tbl := k_in [668, 678, 686, 690, 691, 695, 1013, 1017, 1034, 1033, 1021, 1026, 1030, 1031, 243, 168, 606, 420, 421, 429, 566, 425, 505, 433, 437, 509, 522, 457, 467, 534, 549, 453, 513, 543, 553, 658, 659, 710, 722, 714, 899, 718, 664, 697, 702, 706, 134, 557, 560, 611, 770, 628, 672, 642, 879, 880, 885, 1048, 130, 162, 182, 198, 223, 239, 287, 326, 349, 404, 416, 570, 577, 585, 588, 592, 595, 598, 601, 602, 607, 616, 725, 620, 734, 737, 750, 757, 758, 763, 766, 775, 787, 795, 806, 810, 634, 823, 828, 638, 629, 654, 839, 843, 848, 724, 624, 856, 633, 864, 865, 875, 881, 894, 900, 723, 650, 916, 933, 937, 946, 954, 958, 966, 982, 990, 995, 1000, 1009, 1044, 1057, 1061, 741, 999, 970, 941, 1071, 1177, 1181, 1231, 1335, 1220, 1213, 1209, 1216, 1295, 1299, 1303, 1291, 1287, 1188, 1247, 1251, 1235, 1243, 1283, 1306, 1275, 1279, 1184, 1239, 1271, 1173, 1192, 1196, 1204, 1227, 1255, 1267, 1319, 1323, 1327, 1339, 1343, 1356, 1384, 1380, 1404, 1407, 1415, 1419, 1428, 1432, 1440, 1456, 1452, 1480, 1488, 1507, 1527, 1523, 1540, 1541, 1552, 1561, 1557, 1548, 1536, 1583, 1568, 1579, 1587, 1591, 1544, 1575, 1597, 1531, 1519, 1617, 1613, 1629, 1637, 1653, 1657, 1649, 1662, 1645, 1666, 1670, 471, 475, 483, 461, 478, 122, 1067, 400, 1503, 408, 1511, 412, 1515, 581, 1423, 612, 1436, 726, 1444, 730, 1448, 742, 1459, 746, 1463, 753, 1467, 759, 1472, 771, 1476, 778, 1484, 783, 1491, 791, 1495, 798, 1499, 802, 1169, 814, 1200, 819, 1223, 834, 1258, 835, 1263, 844, 1311, 852, 1315, 860, 1331, 866, 1347, 871, 1352, 890, 1360, 904, 1364, 908, 1368, 912, 1372, 962, 1376, 974, 1388, 978, 1392, 986, 1396, 991, 1400, 1005, 1641, 921, 1601, 925, 1605, 929, 1609, 1001, 1621, 950, 1625, 1040, 1633, 1053, 1411] (by decide +kernel)
def k_cLX (q : Nat × Nat × Nat) : Cond := .methodLink (k_cn q.1) q.2.1 (k_xn q.2.2)
set_option maxRecDepth 100000 in
theorem k_lx : ∀ q ∈ k_LX, k_cLX q ∈ lw_tbl := k_in [290, 696, 226, 242, 165, 201, 540, 329, 663, 701, 133, 574, 646, 647, 185, 352, 1052, 125, 870, 920, 1070] (by decide +kernel)
def k_cLMN (q : Nat × Nat × Nat) : Cond := .methodLinkNest (k_cn q.1) q.2.1 (k_y q.2.2) "ApprovalRoutes"
set_option maxRecDepth 100000 in
theorem k_lmn : ∀ q ∈ k_LMN, k_cLMN q ∈ lw_tbl := k_in [682, 685, 1025, 441, 519, 945, 889] (by decide +kernel)
def k_sf (k : Nat) : String × String × String := match k with
  | 0 => ("java/lang/String", "value", "[B")
  | _ => ("java/lang/String", "coder", "B")
def k_ff (ci k : Nat) : String × String × String := match k_cl[ci]? with
  | some r => ((r.2.1 k).1, (r.2.1 k).2.1, (r.2.1 k).2.2.1)
  | none => k_sf k
def k_cLF (q : Nat × Nat × Nat × Nat) : Cond := .fieldLink (k_cn q.1) q.2.1 (k_ff q.2.2.1 q.2.2.2).1 (k_ff q.2.2.1 q.2.2.2).2.1 (k_ff q.2.2.1 q.2.2.2).2.2
set_option maxRecDepth 100000 in
theorem k_lf : ∀ q ∈ k_LF, k_cLF q ∈ lw_tbl := k_in [291, 292, 293, 294, 295, 296, 297, 299, 302, 265, 263, 248, 250, 252, 144, 227, 228, 229, 148, 143, 247, 249, 251, 254, 257, 259, 262, 266, 169, 170, 171, 202, 203, 204, 205, 206, 207, 189, 146, 151, 330, 331, 332, 333, 334, 253, 256, 149, 260, 303, 300, 298, 140, 141, 147, 186, 187, 353, 142, 357, 358, 359, 360, 361, 362, 363, 364, 365, 366, 367, 368, 369, 370, 188, 145, 150, 335, 304, 301, 264, 267, 258, 261, 255, 172, 1074, 1075, 1077, 1078, 1079, 1080, 1085, 1089, 1090, 1093, 1094, 1100, 1082, 1084, 1081, 1086, 1083, 1087, 1088, 1091, 1092, 1076, 1095, 1096, 1097, 1099, 1098, 1101, 1102, 1103, 1104, 1674, 1675] (by decide +kernel)
def k_sg (k : Nat) : String × String × String := match k with
  | 0 => ("ApprovalRoutes", "WIDTH", "[I")
  | 1 => ("ApprovalRoutes", "MOST_ROWS", "[I")
  | 2 => ("ApprovalRoutes", "ROWS_START", "[I")
  | 3 => ("ApprovalRoutes", "FROM_COLUMN", "[I")
  | 4 => ("ApprovalRoutes", "FIRST_SETTING", "[I")
  | 5 => ("ApprovalRoutes", "HIGHEST_SETTING", "[I")
  | 6 => ("java/lang/String", "COMPACT_STRINGS", "Z")
  | _ => ("jdk/internal/util/Preconditions", "SIOOBE_FORMATTER", "Ljava/util/function/BiFunction;")
def k_cLS (q : Nat × Nat × Nat) : Cond := .fieldLink (k_cn q.1) q.2.1 (k_sg q.2.2).1 (k_sg q.2.2).2.1 (k_sg q.2.2).2.2
set_option maxRecDepth 100000 in
theorem k_ls : ∀ q ∈ k_LS, k_cLS q ∈ lw_tbl := k_in [782, 818, 481, 465] (by decide +kernel)
def k_cLSN (q : Nat × Nat × Nat) : Cond := .fieldLinkNest (k_cn q.1) q.2.1 (k_sg q.2.2).1 (k_sg q.2.2).2.1 (k_sg q.2.2).2.2 "ApprovalRoutes"
set_option maxRecDepth 100000 in
theorem k_lsn : ∀ q ∈ k_LSN, k_cLSN q ∈ lw_tbl := k_in [1039, 1032, 547, 138, 558, 564, 517, 676] (by decide +kernel)
def k_cLC (q : Nat × Nat × Nat) : Cond := .classLink (k_cn q.1) q.2.1 (k_cn q.2.2)
set_option maxRecDepth 100000 in
theorem k_lc : ∀ q ∈ k_LC, k_cLC q ∈ lw_tbl := k_in [166, 128, 160, 180, 196, 221, 237, 285, 324, 347, 120, 1065] (by decide +kernel)
def k_cLK (q : Nat × Nat × Nat) : Cond := .constant (k_cn q.1) q.2.1 (nI q.2.2)
set_option maxRecDepth 100000 in
theorem k_lk : ∀ q ∈ k_LK, k_cLK q ∈ lw_tbl := k_in [539, 898, 1567] (by decide +kernel)
def k_lv (t u : Nat) : Int64 := match u with
  | 2 => lN t
  | _ => -(lN t)
def k_cLKL (q : Nat × Nat × Nat × Nat) : Cond := .constantLong (k_cn q.1) q.2.1 (k_lv q.2.2.1 q.2.2.2)
set_option maxRecDepth 100000 in
theorem k_lkl : ∀ q ∈ k_LKL, k_cLKL q ∈ lw_tbl := k_in [827, 1342, 1338, 1208, 1262, 1310, 1346, 1351, 1427, 1471, 1542, 1543, 1565, 1566, 831, 832, 833] (by decide +kernel)
def k_cLT (q : Nat × Nat × Nat) : Cond := .stringRef (k_cn q.1) q.2.1 (k_strT.getD q.2.2 "")
set_option maxRecDepth 100000 in
theorem k_lt : ∀ q ∈ k_LT, k_cLT q ∈ lw_tbl := k_in [1038, 525, 526, 527, 528, 529, 530, 531, 532, 533, 538, 444, 445, 446, 447, 448, 449, 450, 451, 452, 1535, 1556, 1571, 1572, 1573, 1574, 1594, 1595, 1596, 1661] (by decide +kernel)
def k_cC (q : k_M) : Cond := .code ⟨k_cn q.1, q.2.1, q.2.2.1⟩ q.2.2.2.1 q.2.2.2.2.1 q.2.2.2.2.2.1
set_option maxRecDepth 100000 in
theorem k_mc0 : ∀ q ∈ k_mL0, k_cC q ∈ lw_tbl := k_in [289, 667, 694, 709, 705, 225, 1012, 1016, 1020, 1037, 1029, 1024, 241, 246, 164, 580, 605, 790, 200, 419, 508, 424, 569, 432, 436, 440, 456, 512, 524, 546, 537, 552, 328, 657, 897, 957, 662, 842, 721, 717] (by decide +kernel)
set_option maxRecDepth 100000 in
theorem k_mc1 : ∀ q ∈ k_mL1, k_cC q ∈ lw_tbl := k_in [851, 713, 859, 903, 919, 944, 973, 132, 137, 573, 591, 516, 623, 563, 556, 610, 769, 627, 809, 813, 675, 671, 681, 689, 700, 641, 645, 653, 184, 407, 428, 351, 878, 884, 888, 1047, 1051, 124, 403, 411] (by decide +kernel)
set_option maxRecDepth 100000 in
theorem k_mc2 : ∀ q ∈ k_mL2, k_cC q ∈ lw_tbl := k_in [415, 584, 615, 729, 733, 745, 749, 756, 762, 774, 781, 786, 794, 801, 805, 817, 822, 826, 838, 847, 855, 863, 869, 874, 893, 907, 911, 915, 924, 928, 932, 953, 965, 977, 981, 989, 994, 1004, 1008, 1043] (by decide +kernel)
set_option maxRecDepth 100000 in
theorem k_mc3 : ∀ q ∈ k_mL3, k_cC q ∈ lw_tbl := k_in [1056, 587, 600, 736, 777, 765, 594, 597, 752, 797, 521, 684, 740, 619, 637, 632, 985, 1060, 1064, 998, 936, 969, 940, 949, 961, 443, 1069, 1073, 1183, 1305, 1180, 1234, 1176, 1230, 1341, 1337, 1406, 1187, 1191, 1238] (by decide +kernel)
set_option maxRecDepth 100000 in
theorem k_mc4 : ∀ q ∈ k_mL4, k_cC q ∈ lw_tbl := k_in [1215, 1222, 1212, 1219, 1298, 1302, 1290, 1294, 1286, 1278, 1246, 1250, 1254, 1257, 1242, 1309, 1282, 1274, 1270, 1322, 1326, 1195, 1199, 1172, 1207, 1203, 1226, 1261, 1266, 1314, 1318, 1330, 1345, 1334, 1350, 1359, 1355, 1363, 1367, 1371] (by decide +kernel)
set_option maxRecDepth 100000 in
theorem k_mc5 : ∀ q ∈ k_mL5, k_cC q ∈ lw_tbl := k_in [1375, 1383, 1387, 1379, 1391, 1395, 1399, 1410, 1403, 1418, 1422, 1414, 1431, 1435, 1426, 1443, 1439, 1447, 1458, 1455, 1451, 1462, 1466, 1470, 1475, 1483, 1479, 1490, 1487, 1494, 1498, 1502, 1510, 1506, 1514, 1530, 1526, 1555, 1539, 1551] (by decide +kernel)
set_option maxRecDepth 100000 in
theorem k_mc6 : ∀ q ∈ (k_mL6.take 39), k_cC q ∈ lw_tbl := k_in [1564, 1560, 1586, 1547, 1582, 1590, 1570, 1578, 1593, 1600, 1534, 1522, 1518, 1604, 1608, 1620, 1616, 1612, 1624, 1632, 1628, 1640, 1636, 1656, 1660, 1652, 1665, 1648, 1669, 1673, 1644, 830, 470, 480, 464, 474, 460, 477, 485] (by decide +kernel)
def k_cI (j : Nat) : Cond := .instanceMethod (k_y j)
def k_cS (j : Nat) : Cond := .selects (k_cn (k_ci j)) (k_y j) (k_y j)
def k_cT (j : Nat) : Cond := .static (k_y j)
def k_LI : List Nat := [0, 1, 2, 3, 4, 5, 6, 7, 8, 9, 10, 11, 12, 13, 14, 15, 16, 17, 18, 19, 20, 21, 22, 23, 24, 25, 26, 27, 29, 30, 31, 32, 33, 34, 35, 36, 37, 38, 39, 40, 41, 42, 43, 44, 45, 46, 47, 48, 49, 50, 51, 52, 53, 54, 55, 56, 57, 58, 59, 60, 61, 62, 63, 64, 65, 66, 67, 68, 69, 70, 71, 72, 73, 74, 75, 76, 77, 78, 79, 80, 81, 82, 83, 84, 85, 86, 87, 88, 89, 90, 91, 92, 93, 94, 95, 96, 97, 98, 99, 100, 101, 102, 103, 104, 105, 106, 107, 108, 109, 110, 111, 112, 113, 114, 115, 116, 117, 118, 119, 120, 132, 133, 134, 135, 136, 137, 138, 139, 140, 141, 142, 143, 144, 146, 150, 151, 152, 153, 157, 158, 159, 162, 163, 164, 165, 166, 167, 168, 169, 170, 171, 172, 174, 175, 176, 177, 178, 179, 180, 181, 182, 183, 184, 185, 186, 187, 188, 189, 190, 191, 193, 194, 195, 196, 197, 198, 199, 200, 201, 202, 203, 204, 205, 206, 207, 208, 209, 210, 211, 212, 213, 214, 215, 216, 217, 219, 220, 221, 222, 223, 224, 225, 226, 228, 229, 230, 231, 232, 233, 234, 235, 236, 237, 238, 239, 240, 241, 242, 243, 244, 245, 247, 249, 250, 251, 252, 253, 254, 255, 256, 257, 258, 259, 260, 261, 262, 263, 264, 265, 266, 267, 268, 269, 270, 272, 274, 275, 276]
set_option maxRecDepth 100000 in
theorem k_li : ∀ q ∈ k_LI, k_cI q ∈ lw_tbl := k_in [288, 665, 693, 707, 703, 224, 1010, 1015, 1019, 1036, 1028, 1023, 240, 244, 163, 578, 603, 788, 199, 417, 507, 423, 568, 431, 435, 439, 455, 511, 545, 536, 551, 327, 655, 895, 955, 661, 840, 719, 715, 849, 711, 857, 901, 917, 942, 971, 131, 135, 571, 589, 514, 621, 561, 554, 608, 767, 625, 807, 811, 673, 669, 679, 687, 698, 639, 644, 651, 183, 405, 426, 350, 876, 882, 887, 1045, 1050, 123, 401, 409, 413, 582, 613, 727, 731, 743, 747, 754, 760, 772, 779, 784, 792, 799, 803, 815, 820, 824, 836, 845, 853, 861, 867, 872, 891, 905, 909, 913, 922, 926, 930, 951, 963, 975, 979, 987, 992, 1002, 1006, 1041, 1054, 739, 618, 636, 631, 984, 1059, 1063, 997, 935, 968, 939, 948, 960, 1068, 1179, 1233, 1175, 1229, 1186, 1190, 1237, 1211, 1218, 1297, 1301, 1289, 1293, 1285, 1277, 1245, 1249, 1253, 1241, 1308, 1281, 1273, 1269, 1321, 1325, 1194, 1198, 1170, 1206, 1201, 1224, 1259, 1264, 1312, 1316, 1329, 1332, 1348, 1358, 1353, 1361, 1365, 1369, 1373, 1382, 1386, 1377, 1389, 1393, 1397, 1409, 1401, 1417, 1421, 1412, 1430, 1434, 1424, 1442, 1437, 1445, 1454, 1449, 1460, 1464, 1468, 1473, 1482, 1477, 1485, 1492, 1496, 1500, 1509, 1504, 1512, 1529, 1525, 1554, 1538, 1550, 1563, 1559, 1585, 1546, 1581, 1589, 1577, 1599, 1533, 1521, 1516, 1602, 1606, 1619, 1615, 1610, 1622, 1631, 1626, 1639, 1634, 1655, 1659, 1651, 1664, 1647, 1668, 1672, 1642, 468, 462, 472, 458] (by decide +kernel)
def k_LV : List Nat := [1, 2, 3, 4, 6, 7, 8, 9, 10, 11, 13, 15, 16, 17, 19, 20, 21, 22, 23, 24, 25, 26, 27, 29, 30, 31, 33, 34, 35, 36, 37, 38, 39, 40, 41, 42, 43, 44, 45, 46, 48, 49, 50, 51, 52, 53, 54, 55, 56, 57, 58, 59, 60, 61, 62, 63, 64, 65, 66, 67, 69, 70, 72, 73, 74, 75, 76, 78, 79, 80, 81, 82, 83, 84, 85, 86, 87, 88, 89, 90, 91, 92, 93, 94, 95, 96, 97, 98, 99, 100, 101, 102, 103, 104, 105, 106, 107, 108, 109, 110, 111, 112, 113, 114, 115, 116, 117, 118, 119, 120, 132, 133, 134, 135, 136, 137, 138, 139, 140, 141, 142, 143, 144, 150, 151, 152, 153, 157, 158, 159, 162, 163, 164, 165, 166, 167, 168, 169, 170, 171, 172, 174, 175, 176, 177, 178, 179, 180, 181, 182, 183, 184, 185, 186, 187, 188, 189, 190, 191, 193, 194, 195, 196, 197, 198, 199, 200, 201, 202, 203, 204, 205, 206, 207, 208, 209, 210, 211, 212, 213, 214, 215, 216, 217, 219, 220, 221, 222, 223, 224, 225, 226, 228, 229, 230, 231, 232, 233, 234, 235, 236, 237, 238, 239, 240, 241, 242, 243, 244, 245, 247, 249, 250, 251, 252, 253, 254, 255, 256, 257, 258, 259, 260, 261, 262, 263, 264, 265, 266, 267, 268, 269, 270, 272, 274, 275, 276]
set_option maxRecDepth 100000 in
theorem k_lv_ : ∀ q ∈ k_LV, k_cS q ∈ lw_tbl := k_in [666, 16, 708, 704, 1011, 26, 27, 30, 29, 28, 245, 579, 604, 789, 418, 5, 0, 10, 1, 2, 3, 4, 6, 8, 7, 9, 656, 896, 956, 15, 841, 720, 716, 850, 712, 858, 902, 918, 943, 972, 136, 572, 590, 515, 622, 562, 555, 609, 768, 626, 808, 812, 674, 670, 680, 688, 699, 640, 14, 652, 406, 427, 877, 883, 18, 1046, 31, 402, 410, 414, 583, 614, 728, 732, 744, 748, 755, 761, 773, 780, 785, 793, 800, 804, 816, 821, 825, 837, 846, 854, 862, 868, 873, 892, 906, 910, 914, 923, 927, 931, 952, 964, 976, 980, 988, 993, 1003, 1007, 1042, 1055, 17, 11, 13, 12, 24, 32, 33, 25, 19, 23, 20, 21, 22, 35, 44, 34, 43, 36, 37, 45, 41, 42, 57, 58, 55, 56, 54, 52, 47, 48, 49, 46, 59, 53, 51, 50, 60, 61, 38, 39, 1171, 40, 1202, 1225, 1260, 1265, 1313, 1317, 62, 1333, 1349, 63, 1354, 1362, 1366, 1370, 1374, 64, 65, 1378, 1390, 1394, 1398, 66, 1402, 67, 68, 1413, 69, 70, 1425, 71, 1438, 1446, 72, 1450, 1461, 1465, 1469, 1474, 73, 1478, 1486, 1493, 1497, 1501, 74, 1505, 1513, 77, 76, 82, 79, 81, 84, 83, 87, 80, 86, 88, 85, 89, 78, 75, 1517, 1603, 1607, 91, 90, 1611, 1623, 92, 1627, 93, 1635, 96, 97, 95, 98, 94, 99, 100, 1643, 469, 463, 473, 459] (by decide +kernel)
def k_LST : List Nat := [28, 121, 122, 123, 124, 125, 126, 127, 128, 129, 130, 131, 145, 147, 148, 149, 154, 155, 156, 160, 161, 173, 192, 218, 227, 246, 248, 271, 273, 277, 278]
set_option maxRecDepth 100000 in
theorem k_lst : ∀ q ∈ k_LST, k_cT q ∈ lw_tbl := k_in [523, 586, 599, 735, 776, 764, 593, 596, 751, 796, 520, 683, 442, 1072, 1182, 1304, 1340, 1336, 1405, 1214, 1221, 1256, 1344, 1457, 1489, 1569, 1592, 829, 479, 476, 484] (by decide +kernel)
def k_cN (c : Nat) : Cond := .initialized (k_cn c)
set_option maxRecDepth 100000 in
theorem k_ln : ∀ q ∈ (List.range 18), k_cN q ∈ lw_tbl := k_in [109, 107, 108, 104, 106, 110, 103, 105, 111, 102, 112, 101, 113, 114, 119, 115, 116, 117] (by decide +kernel)
def k_cX (x : Nat) : Cond := match x with
  | 0 => .static Lib.Math.max.name
  | 1 => .static Lib.Math.min.name
  | 2 => .code Lib.Math.max.name Lib.Math.max.code 2 (some .int)
  | 3 => .code Lib.Math.min.name Lib.Math.min.code 2 (some .int)
  | 4 => .native arraycopyName
  | 5 => .static arraycopyName
  | 6 => .initialized "java/lang/System"
  | 7 => .instanceMethod Lib.objectInit
  | 8 => .code Lib.objectInit ⟨#[0xb1]⟩ 1 none
  | 9 => .arrayClass .int
  | 10 => .arrayClass .byte
  | 11 => .arrayClass .boolean
  | _ => .arrayOver (.object "ApprovalRoutes$State")
set_option maxRecDepth 100000 in
theorem k_lxx : ∀ q ∈ (List.range 13), k_cX q ∈ lw_tbl := k_in [648, 541, 649, 542, 576, 575, 118, 126, 127, 159, 195, 1168, 167] (by decide +kernel)
def k_cB (q : Nat × Nat) : Cond := .instantiable (k_cn q.1) q.2
def k_LB : List (Nat × Nat) := [(0, 9), (1, 3), (2, 8), (3, 3), (4, 6), (5, 5), (6, 3), (7, 2), (8, 1), (9, 14), (10, 31)]
set_option maxRecDepth 100000 in
theorem k_lb : ∀ q ∈ k_LB, k_cB q ∈ lw_tbl := k_in [286, 222, 238, 161, 197, 325, 129, 181, 348, 121, 1066] (by decide +kernel)
set_option maxRecDepth 100000 in
theorem k_ws0 : ∀ w ∈ u_ws "ApprovalRoutes$Desk" k_T0 9, w ∈ lw_tbl := by
  have h := k_in (L := u_ws "ApprovalRoutes$Desk" k_T0 9) (f := id) [305, 307, 309, 311, 313, 315, 317, 319, 321] (by decide +kernel)
  exact h
theorem k_nm0 : ∀ a, a < 9 → ∀ b, b < 9 → a ≠ b → (k_T0 a).2.1 ≠ (k_T0 b).2.1 := by decide +kernel
theorem k_ty0 : ∀ k, k < 9 → parseFieldDescriptor (k_T0 k).2.2.1 = some (k_fty 0 k) := by decide +kernel
theorem k_df0 : ∀ k, k < 9 → defaultValue (k_fty 0 k) = vp_V (k_new.getD 0 []) k := by decide +kernel
set_option maxRecDepth 100000 in
theorem k_ws1 : ∀ w ∈ u_ws "ApprovalRoutes$Letter" k_T1 3, w ∈ lw_tbl := by
  have h := k_in (L := u_ws "ApprovalRoutes$Letter" k_T1 3) (f := id) [230, 232, 234] (by decide +kernel)
  exact h
theorem k_nm1 : ∀ a, a < 3 → ∀ b, b < 3 → a ≠ b → (k_T1 a).2.1 ≠ (k_T1 b).2.1 := by decide +kernel
theorem k_ty1 : ∀ k, k < 3 → parseFieldDescriptor (k_T1 k).2.2.1 = some (k_fty 1 k) := by decide +kernel
theorem k_df1 : ∀ k, k < 3 → defaultValue (k_fty 1 k) = vp_V (k_new.getD 1 []) k := by decide +kernel
set_option maxRecDepth 100000 in
theorem k_ws2 : ∀ w ∈ u_ws "ApprovalRoutes$Matter" k_T2 8, w ∈ lw_tbl := by
  have h := k_in (L := u_ws "ApprovalRoutes$Matter" k_T2 8) (f := id) [268, 270, 272, 274, 276, 278, 280, 282] (by decide +kernel)
  exact h
theorem k_nm2 : ∀ a, a < 8 → ∀ b, b < 8 → a ≠ b → (k_T2 a).2.1 ≠ (k_T2 b).2.1 := by decide +kernel
theorem k_ty2 : ∀ k, k < 8 → parseFieldDescriptor (k_T2 k).2.2.1 = some (k_fty 2 k) := by decide +kernel
theorem k_df2 : ∀ k, k < 8 → defaultValue (k_fty 2 k) = vp_V (k_new.getD 2 []) k := by decide +kernel
set_option maxRecDepth 100000 in
theorem k_ws3 : ∀ w ∈ u_ws "ApprovalRoutes$Past" k_T3 3, w ∈ lw_tbl := by
  have h := k_in (L := u_ws "ApprovalRoutes$Past" k_T3 3) (f := id) [173, 175, 177] (by decide +kernel)
  exact h
theorem k_nm3 : ∀ a, a < 3 → ∀ b, b < 3 → a ≠ b → (k_T3 a).2.1 ≠ (k_T3 b).2.1 := by decide +kernel
theorem k_ty3 : ∀ k, k < 3 → parseFieldDescriptor (k_T3 k).2.2.1 = some (k_fty 3 k) := by decide +kernel
theorem k_df3 : ∀ k, k < 3 → defaultValue (k_fty 3 k) = vp_V (k_new.getD 3 []) k := by decide +kernel
set_option maxRecDepth 100000 in
theorem k_ws4 : ∀ w ∈ u_ws "ApprovalRoutes$Reader" k_T4 6, w ∈ lw_tbl := by
  have h := k_in (L := u_ws "ApprovalRoutes$Reader" k_T4 6) (f := id) [208, 210, 212, 214, 216, 218] (by decide +kernel)
  exact h
theorem k_nm4 : ∀ a, a < 6 → ∀ b, b < 6 → a ≠ b → (k_T4 a).2.1 ≠ (k_T4 b).2.1 := by decide +kernel
theorem k_ty4 : ∀ k, k < 6 → parseFieldDescriptor (k_T4 k).2.2.1 = some (k_fty 4 k) := by decide +kernel
theorem k_df4 : ∀ k, k < 6 → defaultValue (k_fty 4 k) = vp_V (k_new.getD 4 []) k := by decide +kernel
set_option maxRecDepth 100000 in
theorem k_ws5 : ∀ w ∈ u_ws "ApprovalRoutes$Route" k_T5 5, w ∈ lw_tbl := by
  have h := k_in (L := u_ws "ApprovalRoutes$Route" k_T5 5) (f := id) [336, 338, 340, 342, 344] (by decide +kernel)
  exact h
theorem k_nm5 : ∀ a, a < 5 → ∀ b, b < 5 → a ≠ b → (k_T5 a).2.1 ≠ (k_T5 b).2.1 := by decide +kernel
theorem k_ty5 : ∀ k, k < 5 → parseFieldDescriptor (k_T5 k).2.2.1 = some (k_fty 5 k) := by decide +kernel
theorem k_df5 : ∀ k, k < 5 → defaultValue (k_fty 5 k) = vp_V (k_new.getD 5 []) k := by decide +kernel
set_option maxRecDepth 100000 in
theorem k_ws6 : ∀ w ∈ u_ws "ApprovalRoutes$State" k_T6 3, w ∈ lw_tbl := by
  have h := k_in (L := u_ws "ApprovalRoutes$State" k_T6 3) (f := id) [152, 154, 156] (by decide +kernel)
  exact h
theorem k_nm6 : ∀ a, a < 3 → ∀ b, b < 3 → a ≠ b → (k_T6 a).2.1 ≠ (k_T6 b).2.1 := by decide +kernel
theorem k_ty6 : ∀ k, k < 3 → parseFieldDescriptor (k_T6 k).2.2.1 = some (k_fty 6 k) := by decide +kernel
theorem k_df6 : ∀ k, k < 3 → defaultValue (k_fty 6 k) = vp_V (k_new.getD 6 []) k := by decide +kernel
set_option maxRecDepth 100000 in
theorem k_ws7 : ∀ w ∈ u_ws "ApprovalRoutes$Tape" k_T7 2, w ∈ lw_tbl := by
  have h := k_in (L := u_ws "ApprovalRoutes$Tape" k_T7 2) (f := id) [190, 192] (by decide +kernel)
  exact h
theorem k_nm7 : ∀ a, a < 2 → ∀ b, b < 2 → a ≠ b → (k_T7 a).2.1 ≠ (k_T7 b).2.1 := by decide +kernel
theorem k_ty7 : ∀ k, k < 2 → parseFieldDescriptor (k_T7 k).2.2.1 = some (k_fty 7 k) := by decide +kernel
theorem k_df7 : ∀ k, k < 2 → defaultValue (k_fty 7 k) = vp_V (k_new.getD 7 []) k := by decide +kernel
set_option maxRecDepth 100000 in
theorem k_ws8 : ∀ w ∈ u_ws "ApprovalRoutes$Web" k_T8 1, w ∈ lw_tbl := by
  have h := k_in (L := u_ws "ApprovalRoutes$Web" k_T8 1) (f := id) [354] (by decide +kernel)
  exact h
theorem k_nm8 : ∀ a, a < 1 → ∀ b, b < 1 → a ≠ b → (k_T8 a).2.1 ≠ (k_T8 b).2.1 := by decide +kernel
theorem k_ty8 : ∀ k, k < 1 → parseFieldDescriptor (k_T8 k).2.2.1 = some (k_fty 8 k) := by decide +kernel
theorem k_df8 : ∀ k, k < 1 → defaultValue (k_fty 8 k) = vp_V (k_new.getD 8 []) k := by decide +kernel
set_option maxRecDepth 100000 in
theorem k_ws9 : ∀ w ∈ u_ws "ApprovalRoutes" k_T9 14, w ∈ lw_tbl := by
  have h := k_in (L := u_ws "ApprovalRoutes" k_T9 14) (f := id) [371, 373, 375, 377, 379, 381, 383, 385, 387, 389, 391, 393, 395, 397] (by decide +kernel)
  exact h
theorem k_nm9 : ∀ a, a < 14 → ∀ b, b < 14 → a ≠ b → (k_T9 a).2.1 ≠ (k_T9 b).2.1 := by decide +kernel
theorem k_ty9 : ∀ k, k < 14 → parseFieldDescriptor (k_T9 k).2.2.1 = some (k_fty 9 k) := by decide +kernel
theorem k_df9 : ∀ k, k < 14 → defaultValue (k_fty 9 k) = vp_V (k_new.getD 9 []) k := by decide +kernel
set_option maxRecDepth 100000 in
theorem k_ws10 : ∀ w ∈ u_ws "ApprovalRoutesModel" k_T10 31, w ∈ lw_tbl := by
  have h := k_in (L := u_ws "ApprovalRoutesModel" k_T10 31) (f := id) [1105, 1107, 1109, 1111, 1113, 1115, 1117, 1119, 1121, 1123, 1125, 1127, 1129, 1131, 1133, 1135, 1137, 1139, 1141, 1143, 1145, 1147, 1149, 1151, 1153, 1155, 1157, 1159, 1161, 1163, 1165] (by decide +kernel)
  exact h
theorem k_nm10 : ∀ a, a < 31 → ∀ b, b < 31 → a ≠ b → (k_T10 a).2.1 ≠ (k_T10 b).2.1 := by decide +kernel
theorem k_ty10 : ∀ k, k < 31 → parseFieldDescriptor (k_T10 k).2.2.1 = some (k_fty 10 k) := by decide +kernel
theorem k_df10 : ∀ k, k < 31 → defaultValue (k_fty 10 k) = vp_V (k_new.getD 10 []) k := by decide +kernel
