/-! the law's words: isSo (printed by wip/p33/mklaw2.py) -/
set_option maxRecDepth 100000 in
theorem hw_wsL_isSo_r1 : GoodIn wsLw wsL_isSo_r1 := goodIn_t _ [330, 331, 204, 332, 343, 384, 385, 271, 386, 387, 388, 2, 389, 277, 278, 13, 390, 391, 74, 392, 393, 394, 395, 396] (by decide +kernel) (by decide +kernel)
set_option maxRecDepth 100000 in
theorem hw_wsL_isSo_r2 : GoodIn wsLw wsL_isSo_r2 := goodIn_t _ [397, 18, 398, 399, 400, 401, 12, 402, 84, 403, 404, 405, 73, 406, 197, 198, 407, 448, 449, 450, 451, 452, 453, 454] (by decide +kernel) (by decide +kernel)
set_option maxRecDepth 100000 in
theorem hw_wsL_isSo_r3 : GoodIn wsLw wsL_isSo_r3 := goodIn_t _ [455, 456, 457, 458, 459, 460, 85, 461, 462, 463, 464, 465, 466, 467, 468, 469, 470, 471, 512, 513, 514, 515, 516, 517] (by decide +kernel) (by decide +kernel)
set_option maxRecDepth 100000 in
theorem hw_wsL_isSo_r4 : GoodIn wsLw wsL_isSo_r4 := goodIn_t _ [518, 519, 520, 521, 522, 523, 524, 525, 526, 527, 528, 529, 530, 531, 130, 83, 532, 533, 534, 535, 576, 577, 578, 129] (by decide +kernel) (by decide +kernel)
set_option maxRecDepth 100000 in
theorem hw_wsL_isSo_r5 : GoodIn wsLw wsL_isSo_r5 := goodIn_t _ [1668, 1669, 1670, 1604, 1605, 1606, 1607, 1608, 1609, 660, 661, 662, 663, 704, 705, 706, 707, 1671, 1672, 1673, 1674, 651, 652, 208] (by decide +kernel) (by decide +kernel)
set_option maxRecDepth 100000 in
theorem hw_wsL_isSo_r6 : GoodIn wsLw wsL_isSo_r6 := goodIn_t _ [209, 210, 211, 1675, 1676, 1677, 1613, 1614, 1615, 1619, 1620, 1621, 1616, 1617, 1618, 1622, 1623, 1664, 579, 580, 581, 582, 583, 584] (by decide +kernel) (by decide +kernel)
set_option maxRecDepth 100000 in
theorem hw_wsL_isSo_r7 : GoodIn wsLw wsL_isSo_r7 := goodIn_t _ [585, 586, 587, 588, 589, 590, 591, 592, 593, 594, 1678, 1679, 1680, 1681, 1682, 1683, 1684, 78, 1287, 1685, 1288, 1289, 1290, 77] (by decide +kernel) (by decide +kernel)
set_option maxRecDepth 100000 in
theorem hw_wsL_isSo_r8 : GoodIn wsLw wsL_isSo_r8 := goodIn_t _ [1291, 1292, 1293, 1294, 1295, 1296, 1297, 1298, 1299, 1300, 1301, 1302, 1303, 1219, 1344, 1345, 1346, 1347, 657, 658, 1348, 1349, 1350, 1351] (by decide +kernel) (by decide +kernel)
set_option maxRecDepth 100000 in
theorem hw_wsL_isSo_r9 : GoodIn wsLw wsL_isSo_r9 := goodIn_t _ [1352, 1353, 1354, 1355, 1356, 1217, 1239, 1280, 1281, 1282, 595, 596, 597, 598, 599, 640, 641, 642, 1686, 1687, 1728, 643, 644, 645] (by decide +kernel) (by decide +kernel)
set_option maxRecDepth 100000 in
theorem hw_wsL_isSo_r10 : GoodIn wsLw wsL_isSo_r10 := goodIn_t _ [646, 647, 648, 649, 650, 653, 654, 655, 656, 659, 1729, 1730, 1731, 1732, 1733, 1734, 1735, 1736, 1737, 1738, 1739, 1740, 1741, 1742] (by decide +kernel) (by decide +kernel)
set_option maxRecDepth 100000 in
theorem hw_wsL_isSo_r11 : GoodIn wsLw wsL_isSo_r11 := goodIn_t _ [1743, 1744, 1745, 1746, 1747, 212, 213, 214, 215, 256, 257, 258, 22, 259, 260, 261, 262, 21, 263, 264, 265, 266, 267, 268] (by decide +kernel) (by decide +kernel)
set_option maxRecDepth 100000 in
theorem hw_wsL_isSo_r12 : GoodIn wsLw wsL_isSo_r12 := goodIn_t _ [269, 270, 272, 273, 274, 275, 276, 279, 320, 321, 322, 323, 324, 145, 325, 326, 327, 328, 329, 1601, 1602, 1603, 1748, 1749] (by decide +kernel) (by decide +kernel)
set_option maxRecDepth 100000 in
theorem hw_wsL_isSo_r13 : GoodIn wsLw wsL_isSo_r13 := goodIn_t _ [1750, 1751, 1792, 1793, 1794, 1425, 1426, 1427, 719, 720, 721, 722, 66, 70, 723, 724, 725, 65, 726, 727, 768, 769, 770, 771] (by decide +kernel) (by decide +kernel)
set_option maxRecDepth 100000 in
theorem hw_wsL_isSo_r14 : GoodIn wsLw wsL_isSo_r14 := goodIn_t _ [772, 773, 774, 775, 776, 777, 778, 779, 780, 781, 782, 783, 784, 785, 786, 787, 788, 789, 790, 791, 832, 833, 834, 835] (by decide +kernel) (by decide +kernel)
set_option maxRecDepth 100000 in
theorem hw_wsL_isSo_r15 : GoodIn wsLw wsL_isSo_r15 := goodIn_t _ [836, 837, 838, 839, 840, 841, 842, 843, 844, 845, 846, 847, 848, 849, 850, 851, 852, 853, 854, 855, 896, 897, 898, 899] (by decide +kernel) (by decide +kernel)
set_option maxRecDepth 100000 in
theorem hw_wsL_isSo_r16 : GoodIn wsLw wsL_isSo_r16 := goodIn_t _ [900, 901, 902, 903, 904, 905, 906, 907, 908, 909, 910, 911, 912, 913, 914, 915, 916, 917, 918, 919, 960, 961, 962, 963] (by decide +kernel) (by decide +kernel)
set_option maxRecDepth 100000 in
theorem hw_wsL_isSo_r17 : GoodIn wsLw wsL_isSo_r17 := goodIn_t _ [964, 965, 966, 967, 968, 969, 970, 971, 972, 973, 974, 975, 976, 977, 978, 979, 980, 981, 982, 983, 1024, 1025, 1026, 1027] (by decide +kernel) (by decide +kernel)
set_option maxRecDepth 100000 in
theorem hw_wsL_isSo_r18 : GoodIn wsLw wsL_isSo_r18 := goodIn_t _ [1028, 1029, 1030, 1031, 1032, 1033, 1034, 1035, 1036, 1037, 1038, 1039, 1040, 1041, 1042, 1043, 1044, 1045, 1046, 1047, 1088, 1089, 1090, 1091] (by decide +kernel) (by decide +kernel)
set_option maxRecDepth 100000 in
theorem hw_wsL_isSo_r19 : GoodIn wsLw wsL_isSo_r19 := goodIn_t _ [1092, 69, 1093, 1094, 193, 1095, 1096, 1097, 1098, 1099, 1100, 192, 1101, 1102, 1103, 1104, 1795, 1796, 1797, 1798, 1799, 1800, 1801, 1802] (by decide +kernel) (by decide +kernel)
set_option maxRecDepth 100000 in
theorem hw_wsL_isSo_r20 : GoodIn wsLw wsL_isSo_r20 := goodIn_t _ [1109, 1110, 1111, 1152, 1153, 1154, 1155, 1156, 1157, 1158, 1159, 1160, 1161, 1162, 1163, 1164, 1165, 1166, 1803, 1804, 1805, 1806, 1807, 1808] (by decide +kernel) (by decide +kernel)
set_option maxRecDepth 100000 in
theorem hw_wsL_isSo_r21 : GoodIn wsLw wsL_isSo_r21 := goodIn_t _ [1809, 1810, 1811, 1812, 1813, 1814, 1815, 1856, 718, 1857, 1858, 1859, 1860, 1861, 1862, 1863, 1864, 1865, 1866, 1867] (by decide +kernel) (by decide +kernel)
set_option maxRecDepth 100000 in
theorem hw_wsL_isSo_c : GoodIn wsLw [.code yL_isSo cL_isSo 16 (some .boolean)] := goodIn_t _ [1667] (by decide +kernel) (by decide +kernel)
set_option maxRecDepth 100000 in
theorem hhL_L_isSo : GoodIn wsLw wsL_isSo := goodIn_ca (goodIn_ca (goodIn_ca (goodIn_cons hw_wsL_isSo_c (goodIn_app (goodIn_app (goodIn_app (goodIn_app (goodIn_app (goodIn_app (goodIn_app (goodIn_app (goodIn_app hw_wsL_isSo_r1 (goodIn_app hw_wsL_isSo_r2 (goodIn_app hw_wsL_isSo_r3 (goodIn_app hw_wsL_isSo_r4 (goodIn_app hw_wsL_isSo_r5 (goodIn_app hw_wsL_isSo_r6 (goodIn_app hw_wsL_isSo_r7 (goodIn_app hw_wsL_isSo_r8 (goodIn_app hw_wsL_isSo_r9 (goodIn_app hw_wsL_isSo_r10 (goodIn_app hw_wsL_isSo_r11 (goodIn_app hw_wsL_isSo_r12 (goodIn_app hw_wsL_isSo_r13 (goodIn_app hw_wsL_isSo_r14 (goodIn_app hw_wsL_isSo_r15 (goodIn_app hw_wsL_isSo_r16 (goodIn_app hw_wsL_isSo_r17 (goodIn_app hw_wsL_isSo_r18 (goodIn_app hw_wsL_isSo_r19 (goodIn_app hw_wsL_isSo_r20 hw_wsL_isSo_r21)))))))))))))))))))) hw_wsX70) hw_wsX30) hw_wsX40) hw_wsX10) hw_wsX20) hw_wsX50) hw_wsX00) hw_wsX60)) (goodIn_sub (fun _ h => List.mem_append_left _ (List.mem_append_left _ (List.mem_append_right _ h))) (by decide +kernel))) (goodIn_sub (fun _ h => List.mem_append_right _ h) (by decide +kernel))) (goodIn_sub (fun _ h => List.mem_append_left _ (List.mem_append_right _ h)) (by decide +kernel))
set_option maxRecDepth 100000 in
theorem hL_L_isSo : GoodIn wsLw (va_wsS RL 236 yL_isSo wsL_isSo) := goodIn_app (goodIn_t _ [1665, 1666, 204] (by decide +kernel) (by decide +kernel)) hhL_L_isSo
