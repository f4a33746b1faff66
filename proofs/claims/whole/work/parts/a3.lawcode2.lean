def bLa15 : List BK := [(795, [(795, .aload_n 1, 0, 0), (796, .aload_n 0, 0, 0), (797, .iload_n 3, 0, 0), (798, .iconst 1, 1, 0), (799, .iadd, 0, 0), (800, .iaload, 0, 0), (801, .invokevirtual 79, 93, 2)], 804)]
theorem tLa15 : z_chkM 279 bLa15 = true := by decide +kernel
def bLb15 : List BK := [(804, [(804, .aload_n 2, 0, 0), (805, .aload_n 0, 0, 0), (806, .iload_n 3, 0, 0), (807, .iconst 1, 1, 0), (808, .iadd, 0, 0), (809, .iaload, 0, 0), (810, .invokevirtual 82, 231, 2), (813, .if_icmp .eq 967, 1780, 0)], 816),
  (816, [(816, .iconst 0, 0, 0), (817, .ireturn, 0, 0)], 818)]
theorem tLb15 : z_chkM 279 bLb15 = true := by decide +kernel
def bLa16 : List BK := [(818, [(818, .aload_n 1, 0, 0), (819, .aload_n 0, 0, 0), (820, .iload_n 3, 0, 0), (821, .iconst 1, 1, 0), (822, .iadd, 0, 0), (823, .iaload, 0, 0), (824, .aload_n 0, 0, 0), (825, .iload_n 3, 0, 0), (826, .iconst 2, 2, 0), (827, .iadd, 0, 0), (828, .iaload, 0, 0), (829, .invokevirtual 83, 94, 3)], 832)]
theorem tLa16 : z_chkM 279 bLa16 = true := by decide +kernel
def bLb16 : List BK := [(832, [(832, .aload_n 2, 0, 0), (833, .aload_n 0, 0, 0), (834, .iload_n 3, 0, 0), (835, .iconst 1, 1, 0), (836, .iadd, 0, 0), (837, .iaload, 0, 0), (838, .aload_n 0, 0, 0), (839, .iload_n 3, 0, 0), (840, .iconst 2, 2, 0), (841, .iadd, 0, 0), (842, .iaload, 0, 0), (843, .invokevirtual 86, 183, 3), (846, .if_icmp .eq 934, 1780, 0)], 849),
  (849, [(849, .iconst 0, 0, 0), (850, .ireturn, 0, 0)], 851)]
theorem tLb16 : z_chkM 279 bLb16 = true := by decide +kernel
def bLa17 : List BK := [(851, [(851, .aload_n 1, 0, 0), (852, .aload_n 0, 0, 0), (853, .iload_n 3, 0, 0), (854, .iconst 1, 1, 0), (855, .iadd, 0, 0), (856, .iaload, 0, 0), (857, .aload_n 0, 0, 0), (858, .iload_n 3, 0, 0), (859, .iconst 2, 2, 0), (860, .iadd, 0, 0), (861, .iaload, 0, 0), (862, .aload_n 0, 0, 0), (863, .iload_n 3, 0, 0), (864, .iconst 3, 3, 0), (865, .iadd, 0, 0), (866, .iaload, 0, 0), (867, .invokevirtual 87, 95, 4)], 870)]
theorem tLa17 : z_chkM 279 bLa17 = true := by decide +kernel
def bLb17 : List BK := [(870, [(870, .aload_n 2, 0, 0), (871, .aload_n 0, 0, 0), (872, .iload_n 3, 0, 0), (873, .iconst 1, 1, 0), (874, .iadd, 0, 0), (875, .iaload, 0, 0), (876, .aload_n 0, 0, 0), (877, .iload_n 3, 0, 0), (878, .iconst 2, 2, 0), (879, .iadd, 0, 0), (880, .iaload, 0, 0), (881, .aload_n 0, 0, 0), (882, .iload_n 3, 0, 0), (883, .iconst 3, 3, 0), (884, .iadd, 0, 0), (885, .iaload, 0, 0), (886, .invokevirtual 90, 185, 4), (889, .if_icmp .eq 891, 1780, 0)], 892),
  (892, [(892, .iconst 0, 0, 0), (893, .ireturn, 0, 0)], 894)]
theorem tLb17 : z_chkM 279 bLb17 = true := by decide +kernel
def bLa18 : List BK := [(894, [(894, .aload_n 1, 0, 0), (895, .aload_n 0, 0, 0), (896, .iload_n 3, 0, 0), (897, .iconst 1, 1, 0), (898, .iadd, 0, 0), (899, .iaload, 0, 0), (900, .aload_n 0, 0, 0), (901, .iload_n 3, 0, 0), (902, .iconst 2, 2, 0), (903, .iadd, 0, 0), (904, .iaload, 0, 0), (905, .invokevirtual 91, 96, 3)], 908)]
theorem tLa18 : z_chkM 279 bLa18 = true := by decide +kernel
def bLb18 : List BK := [(908, [(908, .aload_n 2, 0, 0), (909, .aload_n 0, 0, 0), (910, .iload_n 3, 0, 0), (911, .iconst 1, 1, 0), (912, .iadd, 0, 0), (913, .iaload, 0, 0), (914, .aload_n 0, 0, 0), (915, .iload_n 3, 0, 0), (916, .iconst 2, 2, 0), (917, .iadd, 0, 0), (918, .iaload, 0, 0), (919, .invokevirtual 94, 186, 3), (922, .if_icmp .eq 858, 1780, 0)], 925),
  (925, [(925, .iconst 0, 0, 0), (926, .ireturn, 0, 0)], 927)]
theorem tLb18 : z_chkM 279 bLb18 = true := by decide +kernel
def bLa19 : List BK := [(927, [(927, .aload_n 1, 0, 0), (928, .aload_n 0, 0, 0), (929, .iload_n 3, 0, 0), (930, .iconst 1, 1, 0), (931, .iadd, 0, 0), (932, .iaload, 0, 0), (933, .invokevirtual 95, 97, 2)], 936)]
theorem tLa19 : z_chkM 279 bLa19 = true := by decide +kernel
def bLb19 : List BK := [(936, [(936, .aload_n 2, 0, 0), (937, .aload_n 0, 0, 0), (938, .iload_n 3, 0, 0), (939, .iconst 1, 1, 0), (940, .iadd, 0, 0), (941, .iaload, 0, 0), (942, .invokevirtual 99, 187, 2), (945, .lcmp, 0, 0), (946, .ifCond .eq 834, 1780, 0)], 949),
  (949, [(949, .iconst 0, 0, 0), (950, .ireturn, 0, 0)], 951)]
theorem tLb19 : z_chkM 279 bLb19 = true := by decide +kernel
def bLa20 : List BK := [(951, [(951, .aload_n 1, 0, 0), (952, .aload_n 0, 0, 0), (953, .iload_n 3, 0, 0), (954, .iconst 1, 1, 0), (955, .iadd, 0, 0), (956, .iaload, 0, 0), (957, .aload_n 0, 0, 0), (958, .iload_n 3, 0, 0), (959, .iconst 2, 2, 0), (960, .iadd, 0, 0), (961, .iaload, 0, 0), (962, .aload_n 0, 0, 0), (963, .iload_n 3, 0, 0), (964, .iconst 3, 3, 0), (965, .iadd, 0, 0), (966, .iaload, 0, 0), (967, .invokevirtual 100, 98, 4)], 970)]
theorem tLa20 : z_chkM 279 bLa20 = true := by decide +kernel
def bLb20 : List BK := [(970, [(970, .aload_n 2, 0, 0), (971, .aload_n 0, 0, 0), (972, .iload_n 3, 0, 0), (973, .iconst 1, 1, 0), (974, .iadd, 0, 0), (975, .iaload, 0, 0), (976, .aload_n 0, 0, 0), (977, .iload_n 3, 0, 0), (978, .iconst 2, 2, 0), (979, .iadd, 0, 0), (980, .iaload, 0, 0), (981, .aload_n 0, 0, 0), (982, .iload_n 3, 0, 0), (983, .iconst 3, 3, 0), (984, .iadd, 0, 0), (985, .iaload, 0, 0), (986, .invokevirtual 103, 188, 4), (989, .if_icmp .eq 791, 1780, 0)], 992),
  (992, [(992, .iconst 0, 0, 0), (993, .ireturn, 0, 0)], 994)]
theorem tLb20 : z_chkM 279 bLb20 = true := by decide +kernel
def bLa21 : List BK := [(994, [(994, .aload_n 1, 0, 0), (995, .aload_n 0, 0, 0), (996, .iload_n 3, 0, 0), (997, .iconst 1, 1, 0), (998, .iadd, 0, 0), (999, .iaload, 0, 0), (1000, .aload_n 0, 0, 0), (1001, .iload_n 3, 0, 0), (1002, .iconst 2, 2, 0), (1003, .iadd, 0, 0), (1004, .iaload, 0, 0), (1005, .aload_n 0, 0, 0), (1006, .iload_n 3, 0, 0), (1007, .iconst 3, 3, 0), (1008, .iadd, 0, 0), (1009, .iaload, 0, 0), (1010, .invokevirtual 104, 99, 4)], 1013)]
theorem tLa21 : z_chkM 279 bLa21 = true := by decide +kernel
def bLb21 : List BK := [(1013, [(1013, .aload_n 2, 0, 0), (1014, .aload_n 0, 0, 0), (1015, .iload_n 3, 0, 0), (1016, .iconst 1, 1, 0), (1017, .iadd, 0, 0), (1018, .iaload, 0, 0), (1019, .aload_n 0, 0, 0), (1020, .iload_n 3, 0, 0), (1021, .iconst 2, 2, 0), (1022, .iadd, 0, 0), (1023, .iaload, 0, 0), (1024, .aload_n 0, 0, 0), (1025, .iload_n 3, 0, 0), (1026, .iconst 3, 3, 0), (1027, .iadd, 0, 0), (1028, .iaload, 0, 0), (1029, .invokevirtual 107, 189, 4), (1032, .if_icmp .eq 748, 1780, 0)], 1035),
  (1035, [(1035, .iconst 0, 0, 0), (1036, .ireturn, 0, 0)], 1037)]
theorem tLb21 : z_chkM 279 bLb21 = true := by decide +kernel
def bLa22 : List BK := [(1037, [(1037, .aload_n 1, 0, 0), (1038, .aload_n 0, 0, 0), (1039, .iload_n 3, 0, 0), (1040, .iconst 1, 1, 0), (1041, .iadd, 0, 0), (1042, .iaload, 0, 0), (1043, .aload_n 0, 0, 0), (1044, .iload_n 3, 0, 0), (1045, .iconst 2, 2, 0), (1046, .iadd, 0, 0), (1047, .iaload, 0, 0), (1048, .invokevirtual 108, 100, 3)], 1051)]
theorem tLa22 : z_chkM 279 bLa22 = true := by decide +kernel
def bLb22 : List BK := [(1051, [(1051, .aload_n 2, 0, 0), (1052, .aload_n 0, 0, 0), (1053, .iload_n 3, 0, 0), (1054, .iconst 1, 1, 0), (1055, .iadd, 0, 0), (1056, .iaload, 0, 0), (1057, .aload_n 0, 0, 0), (1058, .iload_n 3, 0, 0), (1059, .iconst 2, 2, 0), (1060, .iadd, 0, 0), (1061, .iaload, 0, 0), (1062, .invokevirtual 111, 190, 3), (1065, .if_icmp .eq 715, 1780, 0)], 1068),
  (1068, [(1068, .iconst 0, 0, 0), (1069, .ireturn, 0, 0)], 1070)]
theorem tLb22 : z_chkM 279 bLb22 = true := by decide +kernel
def bLa23 : List BK := [(1070, [(1070, .aload_n 1, 0, 0), (1071, .aload_n 0, 0, 0), (1072, .iload_n 3, 0, 0), (1073, .iconst 1, 1, 0), (1074, .iadd, 0, 0), (1075, .iaload, 0, 0), (1076, .aload_n 0, 0, 0), (1077, .iload_n 3, 0, 0), (1078, .iconst 2, 2, 0), (1079, .iadd, 0, 0), (1080, .iaload, 0, 0), (1081, .aload_n 0, 0, 0), (1082, .iload_n 3, 0, 0), (1083, .iconst 3, 3, 0), (1084, .iadd, 0, 0), (1085, .iaload, 0, 0), (1086, .aload_n 0, 0, 0), (1087, .iload_n 3, 0, 0), (1088, .iconst 4, 4, 0), (1089, .iadd, 0, 0), (1090, .iaload, 0, 0), (1091, .invokevirtual 112, 101, 5)], 1094)]
theorem tLa23 : z_chkM 279 bLa23 = true := by decide +kernel
def bLb23 : List BK := [(1094, [(1094, .aload_n 2, 0, 0), (1095, .aload_n 0, 0, 0), (1096, .iload_n 3, 0, 0), (1097, .iconst 1, 1, 0), (1098, .iadd, 0, 0), (1099, .iaload, 0, 0), (1100, .aload_n 0, 0, 0), (1101, .iload_n 3, 0, 0), (1102, .iconst 2, 2, 0), (1103, .iadd, 0, 0), (1104, .iaload, 0, 0), (1105, .aload_n 0, 0, 0), (1106, .iload_n 3, 0, 0), (1107, .iconst 3, 3, 0), (1108, .iadd, 0, 0), (1109, .iaload, 0, 0), (1110, .aload_n 0, 0, 0), (1111, .iload_n 3, 0, 0), (1112, .iconst 4, 4, 0), (1113, .iadd, 0, 0), (1114, .iaload, 0, 0), (1115, .invokevirtual 115, 193, 5), (1118, .if_icmp .eq 662, 1780, 0)], 1121),
  (1121, [(1121, .iconst 0, 0, 0), (1122, .ireturn, 0, 0)], 1123)]
theorem tLb23 : z_chkM 279 bLb23 = true := by decide +kernel
def bLa24 : List BK := [(1123, [(1123, .aload_n 1, 0, 0), (1124, .aload_n 0, 0, 0), (1125, .iload_n 3, 0, 0), (1126, .iconst 1, 1, 0), (1127, .iadd, 0, 0), (1128, .iaload, 0, 0), (1129, .aload_n 0, 0, 0), (1130, .iload_n 3, 0, 0), (1131, .iconst 2, 2, 0), (1132, .iadd, 0, 0), (1133, .iaload, 0, 0), (1134, .aload_n 0, 0, 0), (1135, .iload_n 3, 0, 0), (1136, .iconst 3, 3, 0), (1137, .iadd, 0, 0), (1138, .iaload, 0, 0), (1139, .invokevirtual 116, 102, 4)], 1142)]
theorem tLa24 : z_chkM 279 bLa24 = true := by decide +kernel
def bLb24 : List BK := [(1142, [(1142, .aload_n 2, 0, 0), (1143, .aload_n 0, 0, 0), (1144, .iload_n 3, 0, 0), (1145, .iconst 1, 1, 0), (1146, .iadd, 0, 0), (1147, .iaload, 0, 0), (1148, .aload_n 0, 0, 0), (1149, .iload_n 3, 0, 0), (1150, .iconst 2, 2, 0), (1151, .iadd, 0, 0), (1152, .iaload, 0, 0), (1153, .aload_n 0, 0, 0), (1154, .iload_n 3, 0, 0), (1155, .iconst 3, 3, 0), (1156, .iadd, 0, 0), (1157, .iaload, 0, 0), (1158, .invokevirtual 119, 194, 4), (1161, .if_icmp .eq 619, 1780, 0)], 1164),
  (1164, [(1164, .iconst 0, 0, 0), (1165, .ireturn, 0, 0)], 1166)]
theorem tLb24 : z_chkM 279 bLb24 = true := by decide +kernel
def bLa25 : List BK := [(1166, [(1166, .aload_n 1, 0, 0), (1167, .aload_n 0, 0, 0), (1168, .iload_n 3, 0, 0), (1169, .iconst 1, 1, 0), (1170, .iadd, 0, 0), (1171, .iaload, 0, 0), (1172, .invokevirtual 120, 103, 2)], 1175)]
theorem tLa25 : z_chkM 279 bLa25 = true := by decide +kernel
def bLb25 : List BK := [(1175, [(1175, .aload_n 2, 0, 0), (1176, .aload_n 0, 0, 0), (1177, .iload_n 3, 0, 0), (1178, .iconst 1, 1, 0), (1179, .iadd, 0, 0), (1180, .iaload, 0, 0), (1181, .invokevirtual 123, 196, 2), (1184, .if_icmp .eq 596, 1780, 0)], 1187),
  (1187, [(1187, .iconst 0, 0, 0), (1188, .ireturn, 0, 0)], 1189)]
theorem tLb25 : z_chkM 279 bLb25 = true := by decide +kernel
def bLa26 : List BK := [(1189, [(1189, .aload_n 1, 0, 0), (1190, .aload_n 0, 0, 0), (1191, .iload_n 3, 0, 0), (1192, .iconst 1, 1, 0), (1193, .iadd, 0, 0), (1194, .iaload, 0, 0), (1195, .invokevirtual 124, 104, 2)], 1198)]
theorem tLa26 : z_chkM 279 bLa26 = true := by decide +kernel
def bLb26 : List BK := [(1198, [(1198, .aload_n 2, 0, 0), (1199, .aload_n 0, 0, 0), (1200, .iload_n 3, 0, 0), (1201, .iconst 1, 1, 0), (1202, .iadd, 0, 0), (1203, .iaload, 0, 0), (1204, .invokevirtual 127, 197, 2), (1207, .if_icmp .eq 573, 1780, 0)], 1210),
  (1210, [(1210, .iconst 0, 0, 0), (1211, .ireturn, 0, 0)], 1212)]
theorem tLb26 : z_chkM 279 bLb26 = true := by decide +kernel
def bLa27 : List BK := [(1212, [(1212, .aload_n 1, 0, 0), (1213, .aload_n 0, 0, 0), (1214, .iload_n 3, 0, 0), (1215, .iconst 1, 1, 0), (1216, .iadd, 0, 0), (1217, .iaload, 0, 0), (1218, .aload_n 0, 0, 0), (1219, .iload_n 3, 0, 0), (1220, .iconst 2, 2, 0), (1221, .iadd, 0, 0), (1222, .iaload, 0, 0), (1223, .aload_n 0, 0, 0), (1224, .iload_n 3, 0, 0), (1225, .iconst 3, 3, 0), (1226, .iadd, 0, 0), (1227, .iaload, 0, 0), (1228, .invokevirtual 128, 105, 4)], 1231)]
theorem tLa27 : z_chkM 279 bLa27 = true := by decide +kernel
def bLb27 : List BK := [(1231, [(1231, .aload_n 2, 0, 0), (1232, .aload_n 0, 0, 0), (1233, .iload_n 3, 0, 0), (1234, .iconst 1, 1, 0), (1235, .iadd, 0, 0), (1236, .iaload, 0, 0), (1237, .aload_n 0, 0, 0), (1238, .iload_n 3, 0, 0), (1239, .iconst 2, 2, 0), (1240, .iadd, 0, 0), (1241, .iaload, 0, 0), (1242, .aload_n 0, 0, 0), (1243, .iload_n 3, 0, 0), (1244, .iconst 3, 3, 0), (1245, .iadd, 0, 0), (1246, .iaload, 0, 0), (1247, .invokevirtual 131, 198, 4), (1250, .if_icmp .eq 530, 1780, 0)], 1253),
  (1253, [(1253, .iconst 0, 0, 0), (1254, .ireturn, 0, 0)], 1255)]
theorem tLb27 : z_chkM 279 bLb27 = true := by decide +kernel
def bLa28 : List BK := [(1255, [(1255, .aload_n 1, 0, 0), (1256, .aload_n 0, 0, 0), (1257, .iload_n 3, 0, 0), (1258, .iconst 1, 1, 0), (1259, .iadd, 0, 0), (1260, .iaload, 0, 0), (1261, .aload_n 0, 0, 0), (1262, .iload_n 3, 0, 0), (1263, .iconst 2, 2, 0), (1264, .iadd, 0, 0), (1265, .iaload, 0, 0), (1266, .invokevirtual 132, 106, 3)], 1269)]
theorem tLa28 : z_chkM 279 bLa28 = true := by decide +kernel
def bLb28 : List BK := [(1269, [(1269, .aload_n 2, 0, 0), (1270, .aload_n 0, 0, 0), (1271, .iload_n 3, 0, 0), (1272, .iconst 1, 1, 0), (1273, .iadd, 0, 0), (1274, .iaload, 0, 0), (1275, .aload_n 0, 0, 0), (1276, .iload_n 3, 0, 0), (1277, .iconst 2, 2, 0), (1278, .iadd, 0, 0), (1279, .iaload, 0, 0), (1280, .invokevirtual 135, 199, 3), (1283, .if_icmp .eq 497, 1780, 0)], 1286),
  (1286, [(1286, .iconst 0, 0, 0), (1287, .ireturn, 0, 0)], 1288)]
theorem tLb28 : z_chkM 279 bLb28 = true := by decide +kernel
def bLa29 : List BK := [(1288, [(1288, .aload_n 1, 0, 0), (1289, .aload_n 0, 0, 0), (1290, .iload_n 3, 0, 0), (1291, .iconst 1, 1, 0), (1292, .iadd, 0, 0), (1293, .iaload, 0, 0), (1294, .aload_n 0, 0, 0), (1295, .iload_n 3, 0, 0), (1296, .iconst 2, 2, 0), (1297, .iadd, 0, 0), (1298, .iaload, 0, 0), (1299, .invokevirtual 136, 107, 3)], 1302)]
theorem tLa29 : z_chkM 279 bLa29 = true := by decide +kernel
def bLb29 : List BK := [(1302, [(1302, .aload_n 2, 0, 0), (1303, .aload_n 0, 0, 0), (1304, .iload_n 3, 0, 0), (1305, .iconst 1, 1, 0), (1306, .iadd, 0, 0), (1307, .iaload, 0, 0), (1308, .aload_n 0, 0, 0), (1309, .iload_n 3, 0, 0), (1310, .iconst 2, 2, 0), (1311, .iadd, 0, 0), (1312, .iaload, 0, 0), (1313, .invokevirtual 139, 200, 3), (1316, .if_icmp .eq 464, 1780, 0)], 1319),
  (1319, [(1319, .iconst 0, 0, 0), (1320, .ireturn, 0, 0)], 1321)]
theorem tLb29 : z_chkM 279 bLb29 = true := by decide +kernel
