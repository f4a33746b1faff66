theorem k_in {α : Type} {L : List α} {f : α → Cond} (ps : List Nat) (h : L.map f = ps.filterMap (fun i => lw_tbl[i]?)) : ∀ q ∈ L, f q ∈ lw_tbl := by
  intro q hq
  have h1 : f q ∈ L.map f := List.mem_map_of_mem hq
  rw [h] at h1
  obtain ⟨i, -, hi⟩ := List.mem_filterMap.mp h1
  exact List.mem_of_getElem? hi
def k_cLM (q : Nat × Nat × Nat) : Cond := .methodLink (k_cn q.1) q.2.1 (k_y q.2.2)
set_option maxRecDepth 100000 in
theorem k_lm : ∀ q ∈ k_LM, k_cLM q ∈ lw_tbl := k_in [668, 678, 686, 690, 691, 695, 1012, 1016, 1033, 1032, 1020, 1025, 1029, 1030, 243, 168, 606, 420, 421, 429, 566, 425, 505, 433, 437, 509, 522, 457, 467, 534, 549, 453, 513, 543, 553, 658, 659, 710, 722, 714, 898, 718, 664, 697, 702, 706, 134, 557, 560, 611, 770, 628, 672, 642, 879, 880, 885, 1047, 130, 162, 182, 198, 223, 239, 287, 326, 349, 404, 416, 570, 577, 585, 588, 592, 595, 598, 601, 602, 607, 616, 725, 620, 734, 737, 750, 757, 758, 763, 766, 775, 787, 795, 806, 810, 634, 823, 828, 638, 629, 654, 839, 843, 848, 724, 624, 856, 633, 864, 865, 875, 881, 894, 899, 723, 650, 915, 932, 936, 945, 953, 957, 965, 981, 989, 994, 999, 1008, 1043, 1056, 1060, 741, 998, 969, 940, 1070, 1176, 1180, 1230, 1334, 1219, 1212, 1208, 1215, 1294, 1298, 1302, 1290, 1286, 1187, 1246, 1250, 1234, 1242, 1282, 1305, 1274, 1278, 1183, 1238, 1270, 1172, 1191, 1195, 1203, 1226, 1254, 1266, 1318, 1322, 1326, 1338, 1342, 1355, 1383, 1379, 1403, 1406, 1414, 1418, 1427, 1431, 1439, 1455, 1451, 1479, 1487, 1506, 1526, 1522, 1539, 1540, 1551, 1560, 1556, 1547, 1535, 1582, 1567, 1578, 1586, 1590, 1543, 1574, 1596, 1530, 1518, 1616, 1612, 1628, 1636, 1652, 1656, 1648, 1661, 1644, 1665, 1669, 471, 475, 483, 461, 478, 122, 1066, 400, 1502, 408, 1510, 412, 1514, 581, 1422, 612, 1435, 726, 1443, 730, 1447, 742, 1458, 746, 1462, 753, 1466, 759, 1471, 771, 1475, 778, 1483, 783, 1490, 791, 1494, 798, 1498, 802, 1168, 814, 1199, 819, 1222, 834, 1257, 835, 1262, 844, 1310, 852, 1314, 860, 1330, 866, 1346, 871, 1351, 890, 1359, 903, 1363, 907, 1367, 911, 1371, 961, 1375, 973, 1387, 977, 1391, 985, 1395, 990, 1399, 1004, 1640, 920, 1600, 924, 1604, 928, 1608, 1000, 1620, 949, 1624, 1039, 1632, 1052, 1410] (by decide +kernel)
def k_cLX (q : Nat × Nat × Nat) : Cond := .methodLink (k_cn q.1) q.2.1 (k_xn q.2.2)
set_option maxRecDepth 100000 in
theorem k_lx : ∀ q ∈ k_LX, k_cLX q ∈ lw_tbl := k_in [290, 696, 226, 242, 165, 201, 540, 329, 663, 701, 133, 574, 646, 647, 185, 352, 1051, 125, 870, 919, 1069] (by decide +kernel)
def k_cLMN (q : Nat × Nat × Nat) : Cond := .methodLinkNest (k_cn q.1) q.2.1 (k_y q.2.2) "ApprovalRoutes"
set_option maxRecDepth 100000 in
theorem k_lmn : ∀ q ∈ k_LMN, k_cLMN q ∈ lw_tbl := k_in [682, 685, 1024, 441, 519, 944, 889] (by decide +kernel)
def k_sf (k : Nat) : String × String × String := match k with
  | 0 => ("java/lang/String", "value", "[B")
  | _ => ("java/lang/String", "coder", "B")
def k_ff (ci k : Nat) : String × String × String := match k_cl[ci]? with
  | some r => ((r.2.1 k).1, (r.2.1 k).2.1, (r.2.1 k).2.2.1)
  | none => k_sf k
def k_cLF (q : Nat × Nat × Nat × Nat) : Cond := .fieldLink (k_cn q.1) q.2.1 (k_ff q.2.2.1 q.2.2.2).1 (k_ff q.2.2.1 q.2.2.2).2.1 (k_ff q.2.2.1 q.2.2.2).2.2
set_option maxRecDepth 100000 in
theorem k_lf : ∀ q ∈ k_LF, k_cLF q ∈ lw_tbl := k_in [291, 292, 293, 294, 295, 296, 297, 299, 302, 265, 263, 248, 250, 252, 144, 227, 228, 229, 148, 143, 247, 249, 251, 254, 257, 259, 262, 266, 169, 170, 171, 202, 203, 204, 205, 206, 207, 189, 146, 151, 330, 331, 332, 333, 334, 253, 256, 149, 260, 303, 300, 298, 140, 141, 147, 186, 187, 353, 142, 357, 358, 359, 360, 361, 362, 363, 364, 365, 366, 367, 368, 369, 370, 188, 145, 150, 335, 304, 301, 264, 267, 258, 261, 255, 172, 1073, 1074, 1076, 1077, 1078, 1079, 1084, 1088, 1089, 1092, 1093, 1099, 1081, 1083, 1080, 1085, 1082, 1086, 1087, 1090, 1091, 1075, 1094, 1095, 1096, 1098, 1097, 1100, 1101, 1102, 1103, 1673, 1674] (by decide +kernel)
def k_sg (k : Nat) : String × String × String := match k with
  | 0 => ("ApprovalRoutes", "WIDTH", "[I")
  | 1 => ("ApprovalRoutes", "MOST_ROWS", "[I")
  | 2 => ("ApprovalRoutes", "ROWS_START", "[I")
  | 3 => ("ApprovalRoutes", "FROM_COLUMN", "[I")
  | 4 => ("ApprovalRoutes", "FIRST_SETTING", "[I")
  | 5 => ("ApprovalRoutes", "HIGHEST_SETTING", "[I")
  | 6 => ("java/lang/String", "COMPACT_STRINGS", "Z")
  | _ => ("jdk/internal/util/Preconditions", "SIOOBE_FORMATTER", "Ljava/util/function/BiFunction;")
def k_cLS (q : Nat × Nat × Nat) : Cond := .fieldLink (k_cn q.1) q.2.1 (k_sg q.2.2).1 (k_sg q.2.2).2.1 (k_sg q.2.2).2.2
set_option maxRecDepth 100000 in
theorem k_ls : ∀ q ∈ k_LS, k_cLS q ∈ lw_tbl := k_in [782, 818, 481, 465] (by decide +kernel)
def k_cLSN (q : Nat × Nat × Nat) : Cond := .fieldLinkNest (k_cn q.1) q.2.1 (k_sg q.2.2).1 (k_sg q.2.2).2.1 (k_sg q.2.2).2.2 "ApprovalRoutes"
set_option maxRecDepth 100000 in
theorem k_lsn : ∀ q ∈ k_LSN, k_cLSN q ∈ lw_tbl := k_in [1038, 1031, 547, 138, 558, 564, 517, 676] (by decide +kernel)
def k_cLC (q : Nat × Nat × Nat) : Cond := .classLink (k_cn q.1) q.2.1 (k_cn q.2.2)
set_option maxRecDepth 100000 in
theorem k_lc : ∀ q ∈ k_LC, k_cLC q ∈ lw_tbl := k_in [166, 128, 160, 180, 196, 221, 237, 285, 324, 347, 120, 1064] (by decide +kernel)
def k_cLK (q : Nat × Nat × Nat) : Cond := .constant (k_cn q.1) q.2.1 (nI q.2.2)
set_option maxRecDepth 100000 in
theorem k_lk : ∀ q ∈ k_LK, k_cLK q ∈ lw_tbl := k_in [539, 1566] (by decide +kernel)
def k_lv (t u : Nat) : Int64 := match u with
  | 2 => lN t
  | _ => -(lN t)
def k_cLKL (q : Nat × Nat × Nat × Nat) : Cond := .constantLong (k_cn q.1) q.2.1 (k_lv q.2.2.1 q.2.2.2)
set_option maxRecDepth 100000 in
theorem k_lkl : ∀ q ∈ k_LKL, k_cLKL q ∈ lw_tbl := k_in [827, 1341, 1337, 1207, 1261, 1309, 1345, 1350, 1426, 1470, 1541, 1542, 1564, 1565, 831, 832, 833] (by decide +kernel)
def k_cLT (q : Nat × Nat × Nat) : Cond := .stringRef (k_cn q.1) q.2.1 (k_strT.getD q.2.2 "")
set_option maxRecDepth 100000 in
theorem k_lt : ∀ q ∈ k_LT, k_cLT q ∈ lw_tbl := k_in [1037, 525, 526, 527, 528, 529, 530, 531, 532, 533, 538, 444, 445, 446, 447, 448, 449, 450, 451, 452, 1534, 1555, 1570, 1571, 1572, 1573, 1593, 1594, 1595, 1660] (by decide +kernel)
def k_cC (q : k_M) : Cond := .code ⟨k_cn q.1, q.2.1, q.2.2.1⟩ q.2.2.2.1 q.2.2.2.2.1 q.2.2.2.2.2.1
set_option maxRecDepth 100000 in
theorem k_mc0 : ∀ q ∈ k_mL0, k_cC q ∈ lw_tbl := k_in [289, 667, 694, 709, 705, 225, 1011, 1015, 1019, 1036, 1028, 1023, 241, 246, 164, 580, 605, 790, 200, 419, 508, 424, 569, 432, 436, 440, 456, 512, 524, 546, 537, 552, 328, 657, 897, 956, 662, 842, 721, 717] (by decide +kernel)
set_option maxRecDepth 100000 in
theorem k_mc1 : ∀ q ∈ k_mL1, k_cC q ∈ lw_tbl := k_in [851, 713, 859, 902, 918, 943, 972, 132, 137, 573, 591, 516, 623, 563, 556, 610, 769, 627, 809, 813, 675, 671, 681, 689, 700, 641, 645, 653, 184, 407, 428, 351, 878, 884, 888, 1046, 1050, 124, 403, 411] (by decide +kernel)
set_option maxRecDepth 100000 in
theorem k_mc2 : ∀ q ∈ k_mL2, k_cC q ∈ lw_tbl := k_in [415, 584, 615, 729, 733, 745, 749, 756, 762, 774, 781, 786, 794, 801, 805, 817, 822, 826, 838, 847, 855, 863, 869, 874, 893, 906, 910, 914, 923, 927, 931, 952, 964, 976, 980, 988, 993, 1003, 1007, 1042] (by decide +kernel)
set_option maxRecDepth 100000 in
theorem k_mc3 : ∀ q ∈ k_mL3, k_cC q ∈ lw_tbl := k_in [1055, 587, 600, 736, 777, 765, 594, 597, 752, 797, 521, 684, 740, 619, 637, 632, 984, 1059, 1063, 997, 935, 968, 939, 948, 960, 443, 1068, 1072, 1182, 1304, 1179, 1233, 1175, 1229, 1340, 1336, 1405, 1186, 1190, 1237] (by decide +kernel)
set_option maxRecDepth 100000 in
theorem k_mc4 : ∀ q ∈ k_mL4, k_cC q ∈ lw_tbl := k_in [1214, 1221, 1211, 1218, 1297, 1301, 1289, 1293, 1285, 1277, 1245, 1249, 1253, 1256, 1241, 1308, 1281, 1273, 1269, 1321, 1325, 1194, 1198, 1171, 1206, 1202, 1225, 1260, 1265, 1313, 1317, 1329, 1344, 1333, 1349, 1358, 1354, 1362, 1366, 1370] (by decide +kernel)
set_option maxRecDepth 100000 in
theorem k_mc5 : ∀ q ∈ k_mL5, k_cC q ∈ lw_tbl := k_in [1374, 1382, 1386, 1378, 1390, 1394, 1398, 1409, 1402, 1417, 1421, 1413, 1430, 1434, 1425, 1442, 1438, 1446, 1457, 1454, 1450, 1461, 1465, 1469, 1474, 1482, 1478, 1489, 1486, 1493, 1497, 1501, 1509, 1505, 1513, 1529, 1525, 1554, 1538, 1550] (by decide +kernel)
set_option maxRecDepth 100000 in
theorem k_mc6 : ∀ q ∈ (k_mL6.take 39), k_cC q ∈ lw_tbl := k_in [1563, 1559, 1585, 1546, 1581, 1589, 1569, 1577, 1592, 1599, 1533, 1521, 1517, 1603, 1607, 1619, 1615, 1611, 1623, 1631, 1627, 1639, 1635, 1655, 1659, 1651, 1664, 1647, 1668, 1672, 1643, 830, 470, 480, 464, 474, 460, 477, 485] (by decide +kernel)
def k_cI (j : Nat) : Cond := .instanceMethod (k_y j)
def k_cS (j : Nat) : Cond := .selects (k_cn (k_ci j)) (k_y j) (k_y j)
def k_cT (j : Nat) : Cond := .static (k_y j)
def k_LI : List Nat := [0, 1, 2, 3, 4, 5, 6, 7, 8, 9, 10, 11, 12, 13, 14, 15, 16, 17, 18, 19, 20, 21, 22, 23, 24, 25, 26, 27, 29, 30, 31, 32, 33, 34, 35, 36, 37, 38, 39, 40, 41, 42, 43, 44, 45, 46, 47, 48, 49, 50, 51, 52, 53, 54, 55, 56, 57, 58, 59, 60, 61, 62, 63, 64, 65, 66, 67, 68, 69, 70, 71, 72, 73, 74, 75, 76, 77, 78, 79, 80, 81, 82, 83, 84, 85, 86, 87, 88, 89, 90, 91, 92, 93, 94, 95, 96, 97, 98, 99, 100, 101, 102, 103, 104, 105, 106, 107, 108, 109, 110, 111, 112, 113, 114, 115, 116, 117, 118, 119, 120, 132, 133, 134, 135, 136, 137, 138, 139, 140, 141, 142, 143, 144, 146, 150, 151, 152, 153, 157, 158, 159, 162, 163, 164, 165, 166, 167, 168, 169, 170, 171, 172, 174, 175, 176, 177, 178, 179, 180, 181, 182, 183, 184, 185, 186, 187, 188, 189, 190, 191, 193, 194, 195, 196, 197, 198, 199, 200, 201, 202, 203, 204, 205, 206, 207, 208, 209, 210, 211, 212, 213, 214, 215, 216, 217, 219, 220, 221, 222, 223, 224, 225, 226, 228, 229, 230, 231, 232, 233, 234, 235, 236, 237, 238, 239, 240, 241, 242, 243, 244, 245, 247, 249, 250, 251, 252, 253, 254, 255, 256, 257, 258, 259, 260, 261, 262, 263, 264, 265, 266, 267, 268, 269, 270, 272, 274, 275, 276]
set_option maxRecDepth 100000 in
theorem k_li : ∀ q ∈ k_LI, k_cI q ∈ lw_tbl := k_in [288, 665, 693, 707, 703, 224, 1009, 1014, 1018, 1035, 1027, 1022, 240, 244, 163, 578, 603, 788, 199, 417, 507, 423, 568, 431, 435, 439, 455, 511, 545, 536, 551, 327, 655, 895, 954, 661, 840, 719, 715, 849, 711, 857, 900, 916, 941, 970, 131, 135, 571, 589, 514, 621, 561, 554, 608, 767, 625, 807, 811, 673, 669, 679, 687, 698, 639, 644, 651, 183, 405, 426, 350, 876, 882, 887, 1044, 1049, 123, 401, 409, 413, 582, 613, 727, 731, 743, 747, 754, 760, 772, 779, 784, 792, 799, 803, 815, 820, 824, 836, 845, 853, 861, 867, 872, 891, 904, 908, 912, 921, 925, 929, 950, 962, 974, 978, 986, 991, 1001, 1005, 1040, 1053, 739, 618, 636, 631, 983, 1058, 1062, 996, 934, 967, 938, 947, 959, 1067, 1178, 1232, 1174, 1228, 1185, 1189, 1236, 1210, 1217, 1296, 1300, 1288, 1292, 1284, 1276, 1244, 1248, 1252, 1240, 1307, 1280, 1272, 1268, 1320, 1324, 1193, 1197, 1169, 1205, 1200, 1223, 1258, 1263, 1311, 1315, 1328, 1331, 1347, 1357, 1352, 1360, 1364, 1368, 1372, 1381, 1385, 1376, 1388, 1392, 1396, 1408, 1400, 1416, 1420, 1411, 1429, 1433, 1423, 1441, 1436, 1444, 1453, 1448, 1459, 1463, 1467, 1472, 1481, 1476, 1484, 1491, 1495, 1499, 1508, 1503, 1511, 1528, 1524, 1553, 1537, 1549, 1562, 1558, 1584, 1545, 1580, 1588, 1576, 1598, 1532, 1520, 1515, 1601, 1605, 1618, 1614, 1609, 1621, 1630, 1625, 1638, 1633, 1654, 1658, 1650, 1663, 1646, 1667, 1671, 1641, 468, 462, 472, 458] (by decide +kernel)
def k_LV : List Nat := [1, 2, 3, 4, 6, 7, 8, 9, 10, 11, 13, 15, 16, 17, 19, 20, 21, 22, 23, 24, 25, 26, 27, 29, 30, 31, 33, 34, 35, 36, 37, 38, 39, 40, 41, 42, 43, 44, 45, 46, 48, 49, 50, 51, 52, 53, 54, 55, 56, 57, 58, 59, 60, 61, 62, 63, 64, 65, 66, 67, 69, 70, 72, 73, 74, 75, 76, 78, 79, 80, 81, 82, 83, 84, 85, 86, 87, 88, 89, 90, 91, 92, 93, 94, 95, 96, 97, 98, 99, 100, 101, 102, 103, 104, 105, 106, 107, 108, 109, 110, 111, 112, 113, 114, 115, 116, 117, 118, 119, 120, 132, 133, 134, 135, 136, 137, 138, 139, 140, 141, 142, 143, 144, 150, 151, 152, 153, 157, 158, 159, 162, 163, 164, 165, 166, 167, 168, 169, 170, 171, 172, 174, 175, 176, 177, 178, 179, 180, 181, 182, 183, 184, 185, 186, 187, 188, 189, 190, 191, 193, 194, 195, 196, 197, 198, 199, 200, 201, 202, 203, 204, 205, 206, 207, 208, 209, 210, 211, 212, 213, 214, 215, 216, 217, 219, 220, 221, 222, 223, 224, 225, 226, 228, 229, 230, 231, 232, 233, 234, 235, 236, 237, 238, 239, 240, 241, 242, 243, 244, 245, 247, 249, 250, 251, 252, 253, 254, 255, 256, 257, 258, 259, 260, 261, 262, 263, 264, 265, 266, 267, 268, 269, 270, 272, 274, 275, 276]
set_option maxRecDepth 100000 in
theorem k_lv_ : ∀ q ∈ k_LV, k_cS q ∈ lw_tbl := k_in [666, 16, 708, 704, 1010, 26, 27, 30, 29, 28, 245, 579, 604, 789, 418, 5, 0, 10, 1, 2, 3, 4, 6, 8, 7, 9, 656, 896, 955, 15, 841, 720, 716, 850, 712, 858, 901, 917, 942, 971, 136, 572, 590, 515, 622, 562, 555, 609, 768, 626, 808, 812, 674, 670, 680, 688, 699, 640, 14, 652, 406, 427, 877, 883, 18, 1045, 31, 402, 410, 414, 583, 614, 728, 732, 744, 748, 755, 761, 773, 780, 785, 793, 800, 804, 816, 821, 825, 837, 846, 854, 862, 868, 873, 892, 905, 909, 913, 922, 926, 930, 951, 963, 975, 979, 987, 992, 1002, 1006, 1041, 1054, 17, 11, 13, 12, 24, 32, 33, 25, 19, 23, 20, 21, 22, 35, 44, 34, 43, 36, 37, 45, 41, 42, 57, 58, 55, 56, 54, 52, 47, 48, 49, 46, 59, 53, 51, 50, 60, 61, 38, 39, 1170, 40, 1201, 1224, 1259, 1264, 1312, 1316, 62, 1332, 1348, 63, 1353, 1361, 1365, 1369, 1373, 64, 65, 1377, 1389, 1393, 1397, 66, 1401, 67, 68, 1412, 69, 70, 1424, 71, 1437, 1445, 72, 1449, 1460, 1464, 1468, 1473, 73, 1477, 1485, 1492, 1496, 1500, 74, 1504, 1512, 77, 76, 82, 79, 81, 84, 83, 87, 80, 86, 88, 85, 89, 78, 75, 1516, 1602, 1606, 91, 90, 1610, 1622, 92, 1626, 93, 1634, 96, 97, 95, 98, 94, 99, 100, 1642, 469, 463, 473, 459] (by decide +kernel)
def k_LST : List Nat := [28, 121, 122, 123, 124, 125, 126, 127, 128, 129, 130, 131, 145, 147, 148, 149, 154, 155, 156, 160, 161, 173, 192, 218, 227, 246, 248, 271, 273, 277, 278]
set_option maxRecDepth 100000 in
theorem k_lst : ∀ q ∈ k_LST, k_cT q ∈ lw_tbl := k_in [523, 586, 599, 735, 776, 764, 593, 596, 751, 796, 520, 683, 442, 1071, 1181, 1303, 1339, 1335, 1404, 1213, 1220, 1255, 1343, 1456, 1488, 1568, 1591, 829, 479, 476, 484] (by decide +kernel)
def k_cN (c : Nat) : Cond := .initialized (k_cn c)
set_option maxRecDepth 100000 in
theorem k_ln : ∀ q ∈ (List.range 18), k_cN q ∈ lw_tbl := k_in [109, 107, 108, 104, 106, 110, 103, 105, 111, 102, 112, 101, 113, 114, 119, 115, 116, 117] (by decide +kernel)
def k_cX (x : Nat) : Cond := match x with
  | 0 => .static Lib.Math.max.name
  | 1 => .static Lib.Math.min.name
  | 2 => .code Lib.Math.max.name Lib.Math.max.code 2 (some .int)
  | 3 => .code Lib.Math.min.name Lib.Math.min.code 2 (some .int)
  | 4 => .native arraycopyName
  | 5 => .static arraycopyName
  | 6 => .initialized "java/lang/System"
  | 7 => .instanceMethod Lib.objectInit
  | 8 => .code Lib.objectInit ⟨#[0xb1]⟩ 1 none
  | 9 => .arrayClass .int
  | 10 => .arrayClass .byte
  | 11 => .arrayClass .boolean
  | _ => .arrayOver (.object "ApprovalRoutes$State")
set_option maxRecDepth 100000 in
theorem k_lxx : ∀ q ∈ (List.range 13), k_cX q ∈ lw_tbl := k_in [648, 541, 649, 542, 576, 575, 118, 126, 127, 159, 195, 1167, 167] (by decide +kernel)
def k_cB (q : Nat × Nat) : Cond := .instantiable (k_cn q.1) q.2
def k_LB : List (Nat × Nat) := [(0, 9), (1, 3), (2, 8), (3, 3), (4, 6), (5, 5), (6, 3), (7, 2), (8, 1), (9, 14), (10, 31)]
set_option maxRecDepth 100000 in
theorem k_lb : ∀ q ∈ k_LB, k_cB q ∈ lw_tbl := k_in [286, 222, 238, 161, 197, 325, 129, 181, 348, 121, 1065] (by decide +kernel)
set_option maxRecDepth 100000 in
theorem k_ws0 : ∀ w ∈ u_ws "ApprovalRoutes$Desk" k_T0 9, w ∈ lw_tbl := by
  have h := k_in (L := u_ws "ApprovalRoutes$Desk" k_T0 9) (f := id) [305, 307, 309, 311, 313, 315, 317, 319, 321] (by decide +kernel)
  exact h
theorem k_nm0 : ∀ a, a < 9 → ∀ b, b < 9 → a ≠ b → (k_T0 a).2.1 ≠ (k_T0 b).2.1 := by decide +kernel
theorem k_ty0 : ∀ k, k < 9 → parseFieldDescriptor (k_T0 k).2.2.1 = some (k_fty 0 k) := by decide +kernel
theorem k_df0 : ∀ k, k < 9 → defaultValue (k_fty 0 k) = vp_V (k_new.getD 0 []) k := by decide +kernel
set_option maxRecDepth 100000 in
theorem k_ws1 : ∀ w ∈ u_ws "ApprovalRoutes$Letter" k_T1 3, w ∈ lw_tbl := by
  have h := k_in (L := u_ws "ApprovalRoutes$Letter" k_T1 3) (f := id) [230, 232, 234] (by decide +kernel)
  exact h
theorem k_nm1 : ∀ a, a < 3 → ∀ b, b < 3 → a ≠ b → (k_T1 a).2.1 ≠ (k_T1 b).2.1 := by decide +kernel
theorem k_ty1 : ∀ k, k < 3 → parseFieldDescriptor (k_T1 k).2.2.1 = some (k_fty 1 k) := by decide +kernel
theorem k_df1 : ∀ k, k < 3 → defaultValue (k_fty 1 k) = vp_V (k_new.getD 1 []) k := by decide +kernel
set_option maxRecDepth 100000 in
theorem k_ws2 : ∀ w ∈ u_ws "ApprovalRoutes$Matter" k_T2 8, w ∈ lw_tbl := by
  have h := k_in (L := u_ws "ApprovalRoutes$Matter" k_T2 8) (f := id) [268, 270, 272, 274, 276, 278, 280, 282] (by decide +kernel)
  exact h
theorem k_nm2 : ∀ a, a < 8 → ∀ b, b < 8 → a ≠ b → (k_T2 a).2.1 ≠ (k_T2 b).2.1 := by decide +kernel
theorem k_ty2 : ∀ k, k < 8 → parseFieldDescriptor (k_T2 k).2.2.1 = some (k_fty 2 k) := by decide +kernel
theorem k_df2 : ∀ k, k < 8 → defaultValue (k_fty 2 k) = vp_V (k_new.getD 2 []) k := by decide +kernel
set_option maxRecDepth 100000 in
theorem k_ws3 : ∀ w ∈ u_ws "ApprovalRoutes$Past" k_T3 3, w ∈ lw_tbl := by
  have h := k_in (L := u_ws "ApprovalRoutes$Past" k_T3 3) (f := id) [173, 175, 177] (by decide +kernel)
  exact h
theorem k_nm3 : ∀ a, a < 3 → ∀ b, b < 3 → a ≠ b → (k_T3 a).2.1 ≠ (k_T3 b).2.1 := by decide +kernel
theorem k_ty3 : ∀ k, k < 3 → parseFieldDescriptor (k_T3 k).2.2.1 = some (k_fty 3 k) := by decide +kernel
theorem k_df3 : ∀ k, k < 3 → defaultValue (k_fty 3 k) = vp_V (k_new.getD 3 []) k := by decide +kernel
set_option maxRecDepth 100000 in
theorem k_ws4 : ∀ w ∈ u_ws "ApprovalRoutes$Reader" k_T4 6, w ∈ lw_tbl := by
  have h := k_in (L := u_ws "ApprovalRoutes$Reader" k_T4 6) (f := id) [208, 210, 212, 214, 216, 218] (by decide +kernel)
  exact h
theorem k_nm4 : ∀ a, a < 6 → ∀ b, b < 6 → a ≠ b → (k_T4 a).2.1 ≠ (k_T4 b).2.1 := by decide +kernel
theorem k_ty4 : ∀ k, k < 6 → parseFieldDescriptor (k_T4 k).2.2.1 = some (k_fty 4 k) := by decide +kernel
theorem k_df4 : ∀ k, k < 6 → defaultValue (k_fty 4 k) = vp_V (k_new.getD 4 []) k := by decide +kernel
set_option maxRecDepth 100000 in
theorem k_ws5 : ∀ w ∈ u_ws "ApprovalRoutes$Route" k_T5 5, w ∈ lw_tbl := by
  have h := k_in (L := u_ws "ApprovalRoutes$Route" k_T5 5) (f := id) [336, 338, 340, 342, 344] (by decide +kernel)
  exact h
theorem k_nm5 : ∀ a, a < 5 → ∀ b, b < 5 → a ≠ b → (k_T5 a).2.1 ≠ (k_T5 b).2.1 := by decide +kernel
theorem k_ty5 : ∀ k, k < 5 → parseFieldDescriptor (k_T5 k).2.2.1 = some (k_fty 5 k) := by decide +kernel
theorem k_df5 : ∀ k, k < 5 → defaultValue (k_fty 5 k) = vp_V (k_new.getD 5 []) k := by decide +kernel
set_option maxRecDepth 100000 in
theorem k_ws6 : ∀ w ∈ u_ws "ApprovalRoutes$State" k_T6 3, w ∈ lw_tbl := by
  have h := k_in (L := u_ws "ApprovalRoutes$State" k_T6 3) (f := id) [152, 154, 156] (by decide +kernel)
  exact h
theorem k_nm6 : ∀ a, a < 3 → ∀ b, b < 3 → a ≠ b → (k_T6 a).2.1 ≠ (k_T6 b).2.1 := by decide +kernel
theorem k_ty6 : ∀ k, k < 3 → parseFieldDescriptor (k_T6 k).2.2.1 = some (k_fty 6 k) := by decide +kernel
theorem k_df6 : ∀ k, k < 3 → defaultValue (k_fty 6 k) = vp_V (k_new.getD 6 []) k := by decide +kernel
set_option maxRecDepth 100000 in
theorem k_ws7 : ∀ w ∈ u_ws "ApprovalRoutes$Tape" k_T7 2, w ∈ lw_tbl := by
  have h := k_in (L := u_ws "ApprovalRoutes$Tape" k_T7 2) (f := id) [190, 192] (by decide +kernel)
  exact h
theorem k_nm7 : ∀ a, a < 2 → ∀ b, b < 2 → a ≠ b → (k_T7 a).2.1 ≠ (k_T7 b).2.1 := by decide +kernel
theorem k_ty7 : ∀ k, k < 2 → parseFieldDescriptor (k_T7 k).2.2.1 = some (k_fty 7 k) := by decide +kernel
theorem k_df7 : ∀ k, k < 2 → defaultValue (k_fty 7 k) = vp_V (k_new.getD 7 []) k := by decide +kernel
set_option maxRecDepth 100000 in
theorem k_ws8 : ∀ w ∈ u_ws "ApprovalRoutes$Web" k_T8 1, w ∈ lw_tbl := by
  have h := k_in (L := u_ws "ApprovalRoutes$Web" k_T8 1) (f := id) [354] (by decide +kernel)
  exact h
theorem k_nm8 : ∀ a, a < 1 → ∀ b, b < 1 → a ≠ b → (k_T8 a).2.1 ≠ (k_T8 b).2.1 := by decide +kernel
theorem k_ty8 : ∀ k, k < 1 → parseFieldDescriptor (k_T8 k).2.2.1 = some (k_fty 8 k) := by decide +kernel
theorem k_df8 : ∀ k, k < 1 → defaultValue (k_fty 8 k) = vp_V (k_new.getD 8 []) k := by decide +kernel
set_option maxRecDepth 100000 in
theorem k_ws9 : ∀ w ∈ u_ws "ApprovalRoutes" k_T9 14, w ∈ lw_tbl := by
  have h := k_in (L := u_ws "ApprovalRoutes" k_T9 14) (f := id) [371, 373, 375, 377, 379, 381, 383, 385, 387, 389, 391, 393, 395, 397] (by decide +kernel)
  exact h
theorem k_nm9 : ∀ a, a < 14 → ∀ b, b < 14 → a ≠ b → (k_T9 a).2.1 ≠ (k_T9 b).2.1 := by decide +kernel
theorem k_ty9 : ∀ k, k < 14 → parseFieldDescriptor (k_T9 k).2.2.1 = some (k_fty 9 k) := by decide +kernel
theorem k_df9 : ∀ k, k < 14 → defaultValue (k_fty 9 k) = vp_V (k_new.getD 9 []) k := by decide +kernel
set_option maxRecDepth 100000 in
theorem k_ws10 : ∀ w ∈ u_ws "ApprovalRoutesModel" k_T10 31, w ∈ lw_tbl := by
  have h := k_in (L := u_ws "ApprovalRoutesModel" k_T10 31) (f := id) [1104, 1106, 1108, 1110, 1112, 1114, 1116, 1118, 1120, 1122, 1124, 1126, 1128, 1130, 1132, 1134, 1136, 1138, 1140, 1142, 1144, 1146, 1148, 1150, 1152, 1154, 1156, 1158, 1160, 1162, 1164] (by decide +kernel)
  exact h
theorem k_nm10 : ∀ a, a < 31 → ∀ b, b < 31 → a ≠ b → (k_T10 a).2.1 ≠ (k_T10 b).2.1 := by decide +kernel
theorem k_ty10 : ∀ k, k < 31 → parseFieldDescriptor (k_T10 k).2.2.1 = some (k_fty 10 k) := by decide +kernel
theorem k_df10 : ∀ k, k < 31 → defaultValue (k_fty 10 k) = vp_V (k_new.getD 10 []) k := by decide +kernel
