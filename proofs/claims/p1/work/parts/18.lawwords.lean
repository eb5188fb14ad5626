theorem xmem {big : List Cond} (ws : List Cond) (ps : List Nat) (hp : ws = ps.filterMap (fun i => big[i]?)) : ∀ w ∈ ws, w ∈ big := by
  intro w hw
  rw [hp] at hw
  obtain ⟨i, -, hi⟩ := List.mem_filterMap.mp hw
  exact List.mem_of_getElem? hi
theorem xapp {big a b : List Cond} (ha : ∀ w ∈ a, w ∈ big) (hb : ∀ w ∈ b, w ∈ big) : ∀ w ∈ a ++ b, w ∈ big := fun w h => (List.mem_append.mp h).elim (ha w) (hb w)
set_option maxRecDepth 20000 in
theorem in_wsL_law_r1 : ∀ w ∈ wsL_law_r1, w ∈ lw_tbl := xmem _ [71, 72, 51, 989, 990, 62, 1509, 73, 74, 75, 76, 77, 78, 79, 80, 52, 393, 96, 97, 53, 395, 182, 183, 55] (by decide +kernel)
set_option maxRecDepth 20000 in
theorem in_wsL_law_r2 : ∀ w ∈ wsL_law_r2, w ∈ lw_tbl := xmem _ [396, 226, 227, 56, 397, 254, 255, 57, 398, 276, 277, 58, 399, 300, 301, 60, 400, 401, 343, 344, 61, 394, 402, 81] (by decide +kernel)
set_option maxRecDepth 20000 in
theorem in_wsL_law_r3 : ∀ w ∈ wsL_law_r3, w ∈ lw_tbl := xmem _ [82, 83, 84, 95, 85, 87, 98, 99, 100, 101, 102, 103, 54, 126, 128, 130, 132, 133, 135, 137, 139, 104, 105, 106] (by decide +kernel)
set_option maxRecDepth 20000 in
theorem in_wsL_law_r4 : ∀ w ∈ wsL_law_r4, w ∈ lw_tbl := xmem _ [107, 108, 110, 112, 114, 184, 185, 186, 187, 188, 190, 192, 193, 196, 228, 229, 230, 231, 232, 233, 253, 234, 235, 256] (by decide +kernel)
set_option maxRecDepth 20000 in
theorem in_wsL_law_r5 : ∀ w ∈ wsL_law_r5, w ∈ lw_tbl := xmem _ [257, 258, 259, 260, 261, 263, 265, 278, 279, 280, 281, 282, 287, 289, 291, 284, 285, 59, 286, 302, 303, 304, 305, 306] (by decide +kernel)
set_option maxRecDepth 20000 in
theorem in_wsL_law_r6 : ∀ w ∈ wsL_law_r6, w ∈ lw_tbl := xmem _ [342, 307, 309, 316, 321, 325, 345, 346, 347, 348, 351, 355, 352, 349, 353, 354, 991, 992, 993, 994, 1012, 1013, 1014, 1019] (by decide +kernel)
set_option maxRecDepth 20000 in
theorem in_wsL_law_r7 : ∀ w ∈ wsL_law_r7, w ∈ lw_tbl := xmem _ [1020, 1021, 1028, 1029, 1031, 1033, 1035, 1036, 1046, 1047, 1048, 1049, 1050, 1051, 1058, 1059, 1060, 1061, 1062, 1065, 1067, 1068, 1069, 995] (by decide +kernel)
set_option maxRecDepth 20000 in
theorem in_wsL_law_r8 : ∀ w ∈ wsL_law_r8, w ∈ lw_tbl := xmem _ [997, 5, 998, 1018, 1022, 1023, 1024, 1025, 1026, 1027, 999, 1001, 6, 1002, 1011, 1015, 1016, 1017, 1003, 1005, 7, 1006, 1044, 1045] (by decide +kernel)
set_option maxRecDepth 20000 in
theorem in_wsL_law_r9 : ∀ w ∈ wsL_law_r9, w ∈ lw_tbl := xmem _ [1052, 1053, 1054, 1055, 1056, 1057, 1007, 1009, 8, 1010, 424, 425, 426, 427, 88, 428, 429, 430, 431, 1189, 1190, 1191, 1192, 1037] (by decide +kernel)
set_option maxRecDepth 20000 in
theorem in_wsL_law_r10 : ∀ w ∈ wsL_law_r10, w ∈ lw_tbl := xmem _ [1193, 432, 433, 434, 435, 1194, 1195, 1196, 1197, 1198, 1199, 1200, 436, 437, 438, 439, 363, 365, 440, 441, 442, 443, 356, 360] (by decide +kernel)
set_option maxRecDepth 20000 in
theorem in_wsL_law_r11 : ∀ w ∈ wsL_law_r11, w ∈ lw_tbl := xmem _ [362, 364, 357, 444, 445, 446, 447, 448, 449, 450, 451, 452, 89, 86, 358, 359, 453, 454, 455, 456, 457, 458, 459, 460] (by decide +kernel)
set_option maxRecDepth 20000 in
theorem in_wsL_law_r12 : ∀ w ∈ wsL_law_r12, w ∈ lw_tbl := xmem _ [461, 462, 463, 464, 466, 467, 468, 469, 470, 471, 472, 63, 473, 1510, 474, 475, 476, 477, 478, 1511, 480, 481, 482, 483] (by decide +kernel)
set_option maxRecDepth 20000 in
theorem in_wsL_law_r13 : ∀ w ∈ wsL_law_r13, w ∈ lw_tbl := xmem _ [484, 485, 486, 487, 488, 489, 64, 490, 491, 492, 493, 494, 496, 497, 65, 498, 499, 500, 66, 501, 502, 503, 504, 505] (by decide +kernel)
set_option maxRecDepth 20000 in
theorem in_wsL_law_r14 : ∀ w ∈ wsL_law_r14, w ∈ lw_tbl := xmem _ [506, 507, 508, 509, 510, 511, 512, 514, 516, 518, 519, 520, 521, 315, 522, 523, 524, 525, 530, 526, 527, 528, 529, 531] (by decide +kernel)
set_option maxRecDepth 20000 in
theorem in_wsL_law_r15 : ∀ w ∈ wsL_law_r15, w ∈ lw_tbl := xmem _ [532, 533, 534, 535, 536, 537, 538, 539, 540, 541, 542, 543, 545, 546, 547, 548, 550, 551, 552, 553, 557, 558, 559, 560] (by decide +kernel)
set_option maxRecDepth 20000 in
theorem in_wsL_law_r16 : ∀ w ∈ wsL_law_r16, w ∈ lw_tbl := xmem _ [361, 308, 600, 602, 601, 67, 561, 562, 563, 564, 568, 565, 566, 567, 569, 570, 571, 572, 573, 574, 575, 576, 578, 579] (by decide +kernel)
set_option maxRecDepth 20000 in
theorem in_wsL_law_r17 : ∀ w ∈ wsL_law_r17, w ∈ lw_tbl := xmem _ [580, 581, 586, 582, 583, 584, 585, 588, 589, 590, 591, 592, 593, 594, 595, 596, 597, 598, 599, 603, 604, 605, 606, 320] (by decide +kernel)
set_option maxRecDepth 20000 in
theorem in_wsL_law_r18 : ∀ w ∈ wsL_law_r18, w ∈ lw_tbl := xmem _ [324, 328, 609, 610, 611, 612, 613, 614, 615, 616, 617, 618, 68, 619, 620, 621, 622, 623, 115, 141, 143, 322, 145, 147] (by decide +kernel)
set_option maxRecDepth 20000 in
theorem in_wsL_law_r19 : ∀ w ∈ wsL_law_r19, w ∈ lw_tbl := xmem _ [149, 151, 624, 625, 627, 0, 628, 264, 629, 630, 631, 632, 1201, 1202, 1203, 1204, 1042, 1038, 1040, 1043, 1205, 1207, 9, 1208] (by decide +kernel)
set_option maxRecDepth 20000 in
theorem in_wsL_law_r20 : ∀ w ∈ wsL_law_r20, w ∈ lw_tbl := xmem _ [1039, 1213, 1214, 1215, 1216, 1041, 1209, 1211, 10, 1212, 1217, 1219, 11, 1220, 1221, 1223, 12, 1224, 1234, 1235, 1225, 1227, 13, 1228] (by decide +kernel)
set_option maxRecDepth 20000 in
theorem in_wsL_law_r21 : ∀ w ∈ wsL_law_r21, w ∈ lw_tbl := xmem _ [1229, 1230, 1232, 14, 1233, 1236, 1238, 15, 1239, 1244, 1245, 1240, 1242, 16, 1243, 1246, 1248, 17, 1249, 1250, 1252, 18, 1253, 1030] (by decide +kernel)
set_option maxRecDepth 20000 in
theorem in_wsL_law_r22 : ∀ w ∈ wsL_law_r22, w ∈ lw_tbl := xmem _ [1254, 1256, 19, 1257, 1032, 1034, 1258, 1260, 20, 1261, 1262, 1264, 21, 1265, 1266, 1268, 22, 1269, 1270, 1272, 23, 1273, 1274, 1276] (by decide +kernel)
set_option maxRecDepth 20000 in
theorem in_wsL_law_r23 : ∀ w ∈ wsL_law_r23, w ∈ lw_tbl := xmem _ [24, 1277, 1278, 1280, 25, 1281, 634, 635, 636, 637, 1282, 1283, 1284, 1285, 638, 639, 640, 641, 642, 643, 644, 645, 646, 1286] (by decide +kernel)
set_option maxRecDepth 20000 in
theorem in_wsL_law_r24 : ∀ w ∈ wsL_law_r24, w ∈ lw_tbl := xmem _ [1287, 1288, 1289, 1290, 1292, 26, 1293, 647, 648, 649, 650, 318, 323, 326, 314, 1294, 1295, 1296, 1297, 651, 652, 653, 654, 655] (by decide +kernel)
set_option maxRecDepth 20000 in
theorem in_wsL_law_r25 : ∀ w ∈ wsL_law_r25, w ∈ lw_tbl := xmem _ [656, 657, 658, 659, 660, 661, 662, 663, 664, 665, 1298, 1299, 1300, 1301, 1302, 1303, 1305, 27, 1306, 1307, 1308, 1309, 666, 667] (by decide +kernel)
set_option maxRecDepth 20000 in
theorem in_wsL_law_r26 : ∀ w ∈ wsL_law_r26, w ∈ lw_tbl := xmem _ [668, 669, 670, 671, 672, 673, 674, 675, 676, 677, 678, 679, 680, 681, 682, 1310, 1311, 1312, 1313, 1314, 1316, 28, 1317, 683] (by decide +kernel)
set_option maxRecDepth 20000 in
theorem in_wsL_law_r27 : ∀ w ∈ wsL_law_r27, w ∈ lw_tbl := xmem _ [684, 685, 686, 140, 687, 688, 689, 690, 1318, 1319, 1320, 1321, 691, 692, 693, 694, 138, 1322, 1323, 1324, 1325, 695, 696, 697] (by decide +kernel)
set_option maxRecDepth 20000 in
theorem in_wsL_law_r28 : ∀ w ∈ wsL_law_r28, w ∈ lw_tbl := xmem _ [698, 134, 1326, 1327, 1328, 1329, 699, 700, 701, 702, 148, 703, 704, 705, 706, 740, 741, 742, 707, 708, 709, 710, 711, 712] (by decide +kernel)
set_option maxRecDepth 20000 in
theorem in_wsL_law_r29 : ∀ w ∈ wsL_law_r29, w ∈ lw_tbl := xmem _ [713, 714, 313, 715, 716, 717, 718, 719, 720, 721, 722, 723, 724, 725, 726, 727, 728, 729, 730, 731, 732, 733, 734, 735] (by decide +kernel)
set_option maxRecDepth 20000 in
theorem in_wsL_law_r30 : ∀ w ∈ wsL_law_r30, w ∈ lw_tbl := xmem _ [736, 737, 738, 739, 743, 744, 745, 746, 319, 747, 748, 749, 750, 327, 751, 752, 753, 754, 1330, 1331, 1332, 1333, 1334, 1335] (by decide +kernel)
set_option maxRecDepth 20000 in
theorem in_wsL_law_r31 : ∀ w ∈ wsL_law_r31, w ∈ lw_tbl := xmem _ [1337, 29, 1338, 1339, 1341, 30, 1342, 1343, 1345, 31, 1346, 1347, 1349, 32, 1350, 1351, 1353, 33, 1354, 1355, 1357, 34, 1358, 1359] (by decide +kernel)
set_option maxRecDepth 20000 in
theorem in_wsL_law_r32 : ∀ w ∈ wsL_law_r32, w ∈ lw_tbl := xmem _ [1361, 35, 1362, 1363, 1365, 36, 1366, 755, 756, 757, 758, 142, 150, 144, 146, 152, 759, 1367, 1368, 1369, 1370, 760, 761, 762] (by decide +kernel)
set_option maxRecDepth 20000 in
theorem in_wsL_law_r33 : ∀ w ∈ wsL_law_r33, w ∈ lw_tbl := xmem _ [763, 129, 131, 136, 1371, 1372, 1373, 1374, 1375, 764, 765, 766, 767, 127, 116, 109, 111, 113, 1376, 1377, 1378, 1379, 1380, 768] (by decide +kernel)
set_option maxRecDepth 20000 in
theorem in_wsL_law_r34 : ∀ w ∈ wsL_law_r34, w ∈ lw_tbl := xmem _ [769, 770, 771, 772, 773, 774, 775, 1381, 1382, 1383, 1384, 1385, 1387, 37, 1388, 1389, 1391, 38, 1392, 776, 777, 778, 779, 195] (by decide +kernel)
set_option maxRecDepth 20000 in
theorem in_wsL_law_r35 : ∀ w ∈ wsL_law_r35, w ∈ lw_tbl := xmem _ [780, 782, 1, 783, 784, 785, 786, 787, 310, 788, 789, 790, 791, 792, 793, 794, 796, 2, 797, 798, 799, 800, 801, 198] (by decide +kernel)
set_option maxRecDepth 20000 in
theorem in_wsL_law_r36 : ∀ w ∈ wsL_law_r36, w ∈ lw_tbl := xmem _ [200, 802, 803, 804, 805, 806, 807, 808, 809, 810, 811, 812, 813, 814, 815, 816, 817, 818, 819, 1393, 1394, 1395, 1396, 1063] (by decide +kernel)
set_option maxRecDepth 20000 in
theorem in_wsL_law_r37 : ∀ w ∈ wsL_law_r37, w ∈ lw_tbl := xmem _ [1397, 1399, 39, 1400, 1401, 1403, 40, 1404, 1405, 1407, 41, 1408, 1409, 820, 821, 822, 823, 824, 825, 826, 827, 828, 829, 830] (by decide +kernel)
set_option maxRecDepth 20000 in
theorem in_wsL_law_r38 : ∀ w ∈ wsL_law_r38, w ∈ lw_tbl := xmem _ [831, 832, 194, 846, 833, 834, 835, 836, 837, 838, 839, 840, 841, 842, 843, 844, 845, 847, 848, 849, 850, 312, 191, 851] (by decide +kernel)
set_option maxRecDepth 20000 in
theorem in_wsL_law_r39 : ∀ w ∈ wsL_law_r39, w ∈ lw_tbl := xmem _ [1410, 1411, 1412, 1413, 1418, 1414, 1416, 42, 1417, 1419, 1421, 43, 1422, 852, 853, 854, 855, 856, 857, 858, 859, 860, 1423, 1424] (by decide +kernel)
set_option maxRecDepth 20000 in
theorem in_wsL_law_r40 : ∀ w ∈ wsL_law_r40, w ∈ lw_tbl := xmem _ [1425, 1426, 1427, 1429, 44, 1430, 861, 862, 863, 864, 237, 239, 204, 206, 865, 866, 867, 868, 202, 236, 238, 873, 869, 870] (by decide +kernel)
set_option maxRecDepth 20000 in
theorem in_wsL_law_r41 : ∀ w ∈ wsL_law_r41, w ∈ lw_tbl := xmem _ [871, 872, 203, 205, 874, 1431, 1432, 1433, 1434, 1435, 1064, 1436, 1438, 45, 1439, 875, 876, 877, 878, 266, 262, 879, 880, 881] (by decide +kernel)
set_option maxRecDepth 20000 in
theorem in_wsL_law_r42 : ∀ w ∈ wsL_law_r42, w ∈ lw_tbl := xmem _ [882, 189, 197, 199, 883, 884, 885, 886, 887, 888, 889, 201, 317, 891, 890, 892, 893, 894, 895, 1440, 1441, 1442, 1443, 1444] (by decide +kernel)
set_option maxRecDepth 20000 in
theorem in_wsL_law_r43 : ∀ w ∈ wsL_law_r43, w ∈ lw_tbl := xmem _ [1066, 1445, 1447, 46, 1448, 1449, 1451, 47, 1452, 896, 897, 898, 899, 900, 901, 902, 903, 1453, 1454, 1455, 1456, 904, 905, 906] (by decide +kernel)
set_option maxRecDepth 20000 in
theorem in_wsL_law_r44 : ∀ w ∈ wsL_law_r44, w ∈ lw_tbl := xmem _ [907, 1457, 1458, 1459, 1460, 1461, 1463, 48, 1464, 908, 909, 910, 911, 912, 914, 3, 915, 916, 917, 69, 918, 919, 920, 921] (by decide +kernel)
set_option maxRecDepth 20000 in
theorem in_wsL_law_r45 : ∀ w ∈ wsL_law_r45, w ∈ lw_tbl := xmem _ [70, 922, 923, 924, 925, 926, 927, 928, 929, 930, 1465, 1466, 1467, 1468, 1469, 1471, 49, 1472, 1473, 1474, 1475, 931, 932, 933] (by decide +kernel)
set_option maxRecDepth 20000 in
theorem in_wsL_law_r46 : ∀ w ∈ wsL_law_r46, w ∈ lw_tbl := xmem _ [934, 935, 936, 937, 1476, 1477, 1478, 1479, 938, 939, 940, 941, 942, 943, 944, 311, 1480, 1481, 1482, 1483, 945, 946, 947, 948] (by decide +kernel)
set_option maxRecDepth 20000 in
theorem in_wsL_law_r47 : ∀ w ∈ wsL_law_r47, w ∈ lw_tbl := xmem _ [949, 950, 951, 1484, 1485, 1486, 1487, 952, 953, 954, 955, 956, 957, 958, 959, 960, 961, 962, 963, 964, 965, 1488, 1489, 1490] (by decide +kernel)
set_option maxRecDepth 20000 in
theorem in_wsL_law_r48 : ∀ w ∈ wsL_law_r48, w ∈ lw_tbl := xmem _ [1491, 1492, 1493, 1494, 966, 967, 968, 969, 292, 970, 971, 972, 973, 1495, 1496, 1497, 1498, 974, 975, 976, 977, 290, 978, 980] (by decide +kernel)
set_option maxRecDepth 20000 in
theorem in_wsL_law_r49 : ∀ w ∈ wsL_law_r49, w ∈ lw_tbl := xmem _ [4, 981, 288, 982, 983, 984, 1499, 1500, 1501, 1502, 1503, 1504, 985, 986, 987, 988, 1505, 1506, 1507, 1508] (by decide +kernel)
set_option maxRecDepth 20000 in
theorem in_law_X10 : ∀ w ∈ wsX100, w ∈ lw_tbl := xmem _ [403, 405, 407, 409, 411, 413, 415, 417, 419, 421] (by decide +kernel)
set_option maxRecDepth 20000 in
theorem in_law_X11 : ∀ w ∈ wsX110, w ∈ lw_tbl := xmem _ [1070, 1072, 1074, 1076, 1078, 1080, 1082, 1084, 1086, 1088, 1090, 1092, 1094, 1096, 1098, 1100, 1102, 1104, 1106, 1108, 1110, 1112, 1114, 1116, 1118, 1120, 1122, 1124, 1126, 1128, 1130, 1132, 1134, 1136, 1138, 1140, 1142, 1144, 1146, 1148, 1150, 1152, 1154, 1156, 1158, 1160, 1162, 1164, 1166, 1168, 1170, 1172, 1174, 1176, 1178, 1180, 1182, 1184, 1186] (by decide +kernel)
set_option maxRecDepth 20000 in
theorem in_law_X8 : ∀ w ∈ wsX80, w ∈ lw_tbl := xmem _ [90, 92] (by decide +kernel)
set_option maxRecDepth 20000 in
theorem in_law_X5 : ∀ w ∈ wsX50, w ∈ lw_tbl := xmem _ [153, 155, 157, 159, 161, 163, 165, 167, 169, 171, 173, 175, 177, 179] (by decide +kernel)
set_option maxRecDepth 20000 in
theorem in_law_X0 : ∀ w ∈ wsX00, w ∈ lw_tbl := xmem _ [207, 209, 211, 213, 215, 217, 219, 221, 223] (by decide +kernel)
set_option maxRecDepth 20000 in
theorem in_law_X9 : ∀ w ∈ wsX90, w ∈ lw_tbl := xmem _ [240, 242, 244, 246, 248, 250] (by decide +kernel)
set_option maxRecDepth 20000 in
theorem in_law_X7 : ∀ w ∈ wsX70, w ∈ lw_tbl := xmem _ [267, 269, 271, 273] (by decide +kernel)
set_option maxRecDepth 20000 in
theorem in_law_X6 : ∀ w ∈ wsX60, w ∈ lw_tbl := xmem _ [293, 295, 297] (by decide +kernel)
set_option maxRecDepth 20000 in
theorem in_law_X3 : ∀ w ∈ wsX30, w ∈ lw_tbl := xmem _ [329, 331, 333, 335, 337, 339] (by decide +kernel)
set_option maxRecDepth 20000 in
theorem in_law_X4 : ∀ w ∈ wsX40, w ∈ lw_tbl := xmem _ [366, 368, 370, 372, 374, 376, 378, 380, 382, 384, 386, 388, 390] (by decide +kernel)
set_option maxRecDepth 20000 in
theorem in_law_X2 : ∀ w ∈ wsX20, w ∈ lw_tbl := xmem _ [117, 119, 121, 123] (by decide +kernel)
theorem wsL_law_in : ∀ w ∈ wsL_law, w ∈ lw_tbl := (xapp (xapp (xapp (xapp (xapp (xapp (xapp (xapp (xapp (xapp (xapp (xapp (xapp in_wsL_law_r1 (xapp in_wsL_law_r2 (xapp in_wsL_law_r3 (xapp in_wsL_law_r4 (xapp in_wsL_law_r5 (xapp in_wsL_law_r6 (xapp in_wsL_law_r7 (xapp in_wsL_law_r8 (xapp in_wsL_law_r9 (xapp in_wsL_law_r10 (xapp in_wsL_law_r11 (xapp in_wsL_law_r12 (xapp in_wsL_law_r13 (xapp in_wsL_law_r14 (xapp in_wsL_law_r15 (xapp in_wsL_law_r16 (xapp in_wsL_law_r17 (xapp in_wsL_law_r18 (xapp in_wsL_law_r19 (xapp in_wsL_law_r20 (xapp in_wsL_law_r21 (xapp in_wsL_law_r22 (xapp in_wsL_law_r23 (xapp in_wsL_law_r24 (xapp in_wsL_law_r25 (xapp in_wsL_law_r26 (xapp in_wsL_law_r27 (xapp in_wsL_law_r28 (xapp in_wsL_law_r29 (xapp in_wsL_law_r30 (xapp in_wsL_law_r31 (xapp in_wsL_law_r32 (xapp in_wsL_law_r33 (xapp in_wsL_law_r34 (xapp in_wsL_law_r35 (xapp in_wsL_law_r36 (xapp in_wsL_law_r37 (xapp in_wsL_law_r38 (xapp in_wsL_law_r39 (xapp in_wsL_law_r40 (xapp in_wsL_law_r41 (xapp in_wsL_law_r42 (xapp in_wsL_law_r43 (xapp in_wsL_law_r44 (xapp in_wsL_law_r45 (xapp in_wsL_law_r46 (xapp in_wsL_law_r47 (xapp in_wsL_law_r48 in_wsL_law_r49)))))))))))))))))))))))))))))))))))))))))))))))) in_law_X10) in_law_X11) in_law_X8) in_law_X5) in_law_X0) in_law_X9) in_law_X7) in_law_X6) in_law_X3) in_law_X4) in_law_X2) (fun _ h => absurd h List.not_mem_nil))
theorem inlX0 : ∀ w ∈ wsX00, w ∈ wsL_law := fun _ h => List.mem_append_left _ (List.mem_append_left _ (List.mem_append_left _ (List.mem_append_left _ (List.mem_append_left _ (List.mem_append_left _ (List.mem_append_left _ (List.mem_append_right _ h)))))))
theorem inX0 : ∀ w ∈ wsX00, w ∈ lw_tbl := fun w h => wsL_law_in w (inlX0 w h)
theorem inX1 : ∀ w ∈ wsX10, w ∈ lw_tbl := by decide +kernel
theorem inlX2 : ∀ w ∈ wsX20, w ∈ wsL_law := fun _ h => List.mem_append_left _ (List.mem_append_right _ h)
theorem inX2 : ∀ w ∈ wsX20, w ∈ lw_tbl := fun w h => wsL_law_in w (inlX2 w h)
theorem inlX3 : ∀ w ∈ wsX30, w ∈ wsL_law := fun _ h => List.mem_append_left _ (List.mem_append_left _ (List.mem_append_left _ (List.mem_append_right _ h)))
theorem inX3 : ∀ w ∈ wsX30, w ∈ lw_tbl := fun w h => wsL_law_in w (inlX3 w h)
theorem inlX4 : ∀ w ∈ wsX40, w ∈ wsL_law := fun _ h => List.mem_append_left _ (List.mem_append_left _ (List.mem_append_right _ h))
theorem inX4 : ∀ w ∈ wsX40, w ∈ lw_tbl := fun w h => wsL_law_in w (inlX4 w h)
theorem inlX5 : ∀ w ∈ wsX50, w ∈ wsL_law := fun _ h => List.mem_append_left _ (List.mem_append_left _ (List.mem_append_left _ (List.mem_append_left _ (List.mem_append_left _ (List.mem_append_left _ (List.mem_append_left _ (List.mem_append_left _ (List.mem_append_right _ h))))))))
theorem inX5 : ∀ w ∈ wsX50, w ∈ lw_tbl := fun w h => wsL_law_in w (inlX5 w h)
theorem inlX6 : ∀ w ∈ wsX60, w ∈ wsL_law := fun _ h => List.mem_append_left _ (List.mem_append_left _ (List.mem_append_left _ (List.mem_append_left _ (List.mem_append_right _ h))))
theorem inX6 : ∀ w ∈ wsX60, w ∈ lw_tbl := fun w h => wsL_law_in w (inlX6 w h)
theorem inlX7 : ∀ w ∈ wsX70, w ∈ wsL_law := fun _ h => List.mem_append_left _ (List.mem_append_left _ (List.mem_append_left _ (List.mem_append_left _ (List.mem_append_left _ (List.mem_append_right _ h)))))
theorem inX7 : ∀ w ∈ wsX70, w ∈ lw_tbl := fun w h => wsL_law_in w (inlX7 w h)
theorem inlX8 : ∀ w ∈ wsX80, w ∈ wsL_law := fun _ h => List.mem_append_left _ (List.mem_append_left _ (List.mem_append_left _ (List.mem_append_left _ (List.mem_append_left _ (List.mem_append_left _ (List.mem_append_left _ (List.mem_append_left _ (List.mem_append_left _ (List.mem_append_right _ h)))))))))
theorem inX8 : ∀ w ∈ wsX80, w ∈ lw_tbl := fun w h => wsL_law_in w (inlX8 w h)
theorem inlX9 : ∀ w ∈ wsX90, w ∈ wsL_law := fun _ h => List.mem_append_left _ (List.mem_append_left _ (List.mem_append_left _ (List.mem_append_left _ (List.mem_append_left _ (List.mem_append_left _ (List.mem_append_right _ h))))))
theorem inX9 : ∀ w ∈ wsX90, w ∈ lw_tbl := fun w h => wsL_law_in w (inlX9 w h)
theorem inlX10 : ∀ w ∈ wsX100, w ∈ wsL_law := fun _ h => List.mem_append_left _ (List.mem_append_left _ (List.mem_append_left _ (List.mem_append_left _ (List.mem_append_left _ (List.mem_append_left _ (List.mem_append_left _ (List.mem_append_left _ (List.mem_append_left _ (List.mem_append_left _ (List.mem_append_left _ (List.mem_append_right _ h)))))))))))
theorem inX10 : ∀ w ∈ wsX100, w ∈ lw_tbl := fun w h => wsL_law_in w (inlX10 w h)
theorem inlX11 : ∀ w ∈ wsX110, w ∈ wsL_law := fun _ h => List.mem_append_left _ (List.mem_append_left _ (List.mem_append_left _ (List.mem_append_left _ (List.mem_append_left _ (List.mem_append_left _ (List.mem_append_left _ (List.mem_append_left _ (List.mem_append_left _ (List.mem_append_left _ (List.mem_append_right _ h))))))))))
theorem inX11 : ∀ w ∈ wsX110, w ∈ lw_tbl := fun w h => wsL_law_in w (inlX11 w h)
