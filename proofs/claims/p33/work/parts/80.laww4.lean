/-! the law's words: call (printed by wip/p33/mklaw2.py) -/
set_option maxRecDepth 100000 in
theorem hw_wsL_call_r1 : GoodIn wsLw wsL_call_r1 := goodIn_t _ [711, 712, 204, 713, 582, 271, 272, 714, 715, 716, 2, 717, 587, 588, 277, 278, 279, 320, 18, 13, 70, 22, 718, 592] (by decide +kernel) (by decide +kernel)
set_option maxRecDepth 100000 in
theorem hw_wsL_call_r2 : GoodIn wsLw wsL_call_r2 := goodIn_t _ [593, 594, 719, 720, 721, 722, 66, 259, 723, 724, 725, 65, 726, 727, 768, 769, 770, 771, 772, 773, 774, 775, 776, 777] (by decide +kernel) (by decide +kernel)
set_option maxRecDepth 100000 in
theorem hw_wsL_call_r3 : GoodIn wsLw wsL_call_r3 := goodIn_t _ [21, 778, 264, 145, 779, 780, 781, 782, 783, 784, 785, 786, 787, 788, 789, 790, 791, 832, 833, 834, 835, 836, 837, 838] (by decide +kernel) (by decide +kernel)
set_option maxRecDepth 100000 in
theorem hw_wsL_call_r4 : GoodIn wsLw wsL_call_r4 := goodIn_t _ [839, 840, 841, 842, 843, 844, 845, 846, 847, 848, 849, 850, 851, 852, 853, 854, 855, 896, 897, 898, 899, 900, 901, 902] (by decide +kernel) (by decide +kernel)
set_option maxRecDepth 100000 in
theorem hw_wsL_call_r5 : GoodIn wsLw wsL_call_r5 := goodIn_t _ [903, 904, 514, 515, 516, 905, 906, 907, 908, 909, 910, 911, 912, 913, 914, 915, 916, 917, 918, 919, 960, 961, 962, 963] (by decide +kernel) (by decide +kernel)
set_option maxRecDepth 100000 in
theorem hw_wsL_call_r6 : GoodIn wsLw wsL_call_r6 := goodIn_t _ [964, 965, 966, 967, 968, 969, 970, 971, 972, 973, 974, 975, 976, 977, 978, 979, 980, 981, 982, 983, 1024, 1025, 1026, 1027] (by decide +kernel) (by decide +kernel)
set_option maxRecDepth 100000 in
theorem hw_wsL_call_r7 : GoodIn wsLw wsL_call_r7 := goodIn_t _ [1028, 1029, 1030, 1031, 1032, 1033, 1034, 1035, 1036, 1037, 1038, 1039, 1040, 1041, 1042, 1043, 1044, 1045, 1046, 1047, 1088, 1089, 1090, 1091] (by decide +kernel) (by decide +kernel)
set_option maxRecDepth 100000 in
theorem hw_wsL_call_r8 : GoodIn wsLw wsL_call_r8 := goodIn_t _ [1092, 69, 1093, 1094, 193, 1095, 1096, 1097, 1098, 1099, 1100, 192, 1101, 1102, 1103, 1104, 1105, 1106, 1107, 1108, 74, 1109, 1110, 1111] (by decide +kernel) (by decide +kernel)
set_option maxRecDepth 100000 in
theorem hw_wsL_call_r9 : GoodIn wsLw wsL_call_r9 := goodIn_t _ [1152, 403, 404, 405, 73, 406, 197, 198, 407, 448, 449, 450, 451, 452, 453, 454, 455, 456, 457, 458, 459, 12, 460, 85] (by decide +kernel) (by decide +kernel)
set_option maxRecDepth 100000 in
theorem hw_wsL_call_r10 : GoodIn wsLw wsL_call_r10 := goodIn_t _ [461, 462, 463, 464, 465, 466, 467, 468, 1153, 1154, 1155, 1156, 1157, 1158, 1159, 1160, 1161, 1162, 1163, 1164, 1165, 1166, 1167, 1168] (by decide +kernel) (by decide +kernel)
set_option maxRecDepth 100000 in
theorem hw_wsL_call_r11 : GoodIn wsLw wsL_call_r11 := goodIn_t _ [1169, 17, 1170, 1171, 1172, 140, 1173, 1174, 1175, 1216, 1217, 1218, 1219, 1220, 83, 1221, 1222, 1223, 1224, 84, 86, 87, 128, 129] (by decide +kernel) (by decide +kernel)
set_option maxRecDepth 100000 in
theorem hw_wsL_call_r12 : GoodIn wsLw wsL_call_r12 := goodIn_t _ [130, 131, 132, 133, 134, 1225, 1226, 1227, 1228, 1229, 1230, 1231, 260, 261, 262, 263, 1232, 1233, 1234, 1235, 1236, 1237, 1238, 653] (by decide +kernel) (by decide +kernel)
set_option maxRecDepth 100000 in
theorem hw_wsL_call_r13 : GoodIn wsLw wsL_call_r13 := goodIn_t _ [654, 655, 1239, 1280, 1281, 1282, 528, 529, 530, 531, 1283, 1284, 1285, 1286, 78, 1287, 1288, 1289, 1290, 77, 1291, 1292, 1293, 1294] (by decide +kernel) (by decide +kernel)
set_option maxRecDepth 100000 in
theorem hw_wsL_call_r14 : GoodIn wsLw wsL_call_r14 := goodIn_t _ [1295, 1296, 1297, 1298, 1299, 1300, 1301, 1302, 1303, 1344, 1345, 1346, 1347, 657, 658, 1348, 1349, 1350, 1351, 1352, 576, 577, 578, 1353] (by decide +kernel) (by decide +kernel)
set_option maxRecDepth 100000 in
theorem hw_wsL_call_r15 : GoodIn wsLw wsL_call_r15 := goodIn_t _ [1354, 1355, 1356, 1357, 1358, 1359, 1360, 1361, 1362, 1363, 1364, 1365, 1366, 518, 519, 520, 521, 522, 523, 1367, 1408, 1409, 1410, 517] (by decide +kernel) (by decide +kernel)
set_option maxRecDepth 100000 in
theorem hw_wsL_call_r16 : GoodIn wsLw wsL_call_r16 := goodIn_t _ [1411, 1412, 1413, 1414, 1415, 1416, 1417, 650, 391, 1418, 1419, 1420, 1421, 1422, 1423, 1424, 1425, 1426, 1427, 1428, 1429, 1430, 1431, 390] (by decide +kernel) (by decide +kernel)
set_option maxRecDepth 100000 in
theorem hw_wsL_call_r17 : GoodIn wsLw wsL_call_r17 := goodIn_t _ [1472, 1473, 1474, 1475, 1476, 1477, 1478, 1479, 1480, 1481, 1482, 393, 1483, 1484, 1485, 1486, 1487, 1488, 1489, 590, 656, 1490, 1491, 1492] (by decide +kernel) (by decide +kernel)
set_option maxRecDepth 100000 in
theorem hw_wsL_call_r18 : GoodIn wsLw wsL_call_r18 := goodIn_t _ [1493, 1494, 1495, 1536, 397, 1537, 1538, 1539, 1540, 1541, 1542, 1543, 1544, 1545, 1546, 589] (by decide +kernel) (by decide +kernel)
set_option maxRecDepth 100000 in
theorem hw_wsL_call_c : GoodIn wsLw [.code yL_call cL_call 4 (some .int)] := goodIn_t _ [710] (by decide +kernel) (by decide +kernel)
set_option maxRecDepth 100000 in
theorem hhL_L_call : GoodIn wsLw wsL_call := goodIn_ca (goodIn_ca (goodIn_ca (goodIn_cons hw_wsL_call_c (goodIn_app (goodIn_app (goodIn_app (goodIn_app (goodIn_app (goodIn_app (goodIn_app (goodIn_app (goodIn_app hw_wsL_call_r1 (goodIn_app hw_wsL_call_r2 (goodIn_app hw_wsL_call_r3 (goodIn_app hw_wsL_call_r4 (goodIn_app hw_wsL_call_r5 (goodIn_app hw_wsL_call_r6 (goodIn_app hw_wsL_call_r7 (goodIn_app hw_wsL_call_r8 (goodIn_app hw_wsL_call_r9 (goodIn_app hw_wsL_call_r10 (goodIn_app hw_wsL_call_r11 (goodIn_app hw_wsL_call_r12 (goodIn_app hw_wsL_call_r13 (goodIn_app hw_wsL_call_r14 (goodIn_app hw_wsL_call_r15 (goodIn_app hw_wsL_call_r16 (goodIn_app hw_wsL_call_r17 hw_wsL_call_r18))))))))))))))))) hw_wsX70) hw_wsX60) hw_wsX50) hw_wsX00) hw_wsX40) hw_wsX30) hw_wsX10) hw_wsX20)) (goodIn_sub (fun _ h => List.mem_append_right _ h) (by decide +kernel))) (goodIn_sub (fun _ h => List.mem_append_left _ (List.mem_append_left _ (List.mem_append_right _ h))) (by decide +kernel))) (goodIn_sub (fun _ h => List.mem_append_left _ (List.mem_append_right _ h)) (by decide +kernel))
set_option maxRecDepth 100000 in
theorem hL_L_call : GoodIn wsLw (va_wsS RL 227 yL_call wsL_call) := goodIn_app (goodIn_t _ [708, 709, 204] (by decide +kernel) (by decide +kernel)) hhL_L_call
