theorem kmem {big ws : List Cond} (ps : List Nat) (h : ps.map (fun i => big[i]?) = ws.map some) : ∀ w ∈ ws, w ∈ big := by
  intro w hw
  have h1 : some w ∈ ps.map (fun i => big[i]?) := by rw [h]; exact List.mem_map.mpr ⟨w, hw, rfl⟩
  obtain ⟨i, -, hi⟩ := List.mem_map.mp h1
  exact List.mem_of_getElem? hi
set_option maxRecDepth 20000 in
theorem kin_1 : ∀ w ∈ wsL_law_r1, w ∈ lw_tbl := kmem [123, 124, 108, 853, 854, 119, 125, 126, 127, 128, 129, 130, 131, 132, 109, 440, 161, 442, 163, 164, 110, 448, 176, 449] (by decide +kernel)
set_option maxRecDepth 20000 in
theorem kin_2 : ∀ w ∈ wsL_law_r2, w ∈ lw_tbl := kmem [178, 111, 200, 112, 271, 272, 117, 441, 443, 395, 396, 118, 444, 445, 446, 134, 135, 136, 160, 139, 141, 143, 145, 166] (by decide +kernel)
set_option maxRecDepth 20000 in
theorem kin_3 : ∀ w ∈ wsL_law_r3, w ∈ lw_tbl := kmem [167, 168, 170, 179, 180, 181, 182, 186, 187, 188, 183, 202, 203, 204, 205, 209, 219, 220, 221, 113, 222, 1478, 223, 224] (by decide +kernel)
set_option maxRecDepth 20000 in
theorem kin_4 : ∀ w ∈ wsL_law_r4, w ∈ lw_tbl := kmem [225, 226, 227, 1479, 229, 230, 231, 232, 233, 234, 235, 236, 237, 238, 114, 239, 240, 241, 242, 243, 245, 246, 115, 247] (by decide +kernel)
set_option maxRecDepth 20000 in
theorem kin_5 : ∀ w ∈ wsL_law_r5, w ∈ lw_tbl := kmem [248, 249, 116, 250, 251, 252, 253, 254, 255, 256, 257, 258, 259, 260, 261, 263, 265, 267, 268, 269, 270, 137, 273, 274] (by decide +kernel)
set_option maxRecDepth 20000 in
theorem kin_6 : ∀ w ∈ wsL_law_r6, w ∈ lw_tbl := kmem [275, 276, 277, 278, 294, 295, 296, 297, 279, 140, 280, 281, 298, 299, 300, 301, 185, 302, 303, 304, 305, 146, 306, 307] (by decide +kernel)
set_option maxRecDepth 20000 in
theorem kin_7 : ∀ w ∈ wsL_law_r7, w ∈ lw_tbl := kmem [308, 309, 310, 311, 312, 314, 0, 315, 316, 317, 318, 319, 321, 1, 322, 323, 325, 2, 326, 328, 330, 3, 331, 332] (by decide +kernel)
set_option maxRecDepth 20000 in
theorem kin_8 : ∀ w ∈ wsL_law_r8, w ∈ lw_tbl := kmem [333, 339, 341, 4, 342, 349, 351, 5, 352, 353, 355, 6, 356, 357, 359, 7, 360, 361, 363, 8, 364, 142, 365, 367] (by decide +kernel)
set_option maxRecDepth 20000 in
theorem kin_9 : ∀ w ∈ wsL_law_r9, w ∈ lw_tbl := kmem [9, 368, 369, 371, 10, 377, 379, 11, 380, 373, 374, 375, 376, 381, 382, 383, 384, 385, 386, 372, 144, 387, 388, 389] (by decide +kernel)
set_option maxRecDepth 20000 in
theorem kin_10 : ∀ w ∈ wsL_law_r10, w ∈ lw_tbl := kmem [390, 391, 392, 393, 394, 397, 398, 399, 400, 405, 412, 414, 416, 401, 418, 420, 410, 855, 856, 857, 858, 863, 864, 867] (by decide +kernel)
set_option maxRecDepth 20000 in
theorem kin_11 : ∀ w ∈ wsL_law_r11, w ∈ lw_tbl := kmem [870, 871, 872, 873, 874, 891, 892, 893, 894, 895, 897, 898, 899, 900, 901, 1004, 905, 906, 907, 908, 865, 859, 861, 30] (by decide +kernel)
set_option maxRecDepth 20000 in
theorem kin_12 : ∀ w ∈ wsL_law_r12, w ∈ lw_tbl := kmem [862, 471, 472, 473, 474, 479, 481, 404, 406, 415, 417, 475, 477, 12, 478, 409, 483, 485, 13, 486, 1005, 1006, 1007, 1008] (by decide +kernel)
set_option maxRecDepth 20000 in
theorem kin_13 : ∀ w ∈ wsL_law_r13, w ∈ lw_tbl := kmem [1009, 1010, 1011, 1012, 1013, 1015, 31, 1016, 875, 1017, 1018, 1019, 1020, 1021, 1022, 1023, 1024, 1025, 1026, 1027, 1028, 1029, 1030, 869] (by decide +kernel)
set_option maxRecDepth 20000 in
theorem kin_14 : ∀ w ∈ wsL_law_r14, w ∈ lw_tbl := kmem [1031, 1033, 32, 1034, 1035, 1037, 33, 1038, 1039, 1041, 34, 1042, 1043, 1045, 35, 1046, 876, 877, 878, 879, 880, 881, 866, 1047] (by decide +kernel)
set_option maxRecDepth 20000 in
theorem kin_15 : ∀ w ∈ wsL_law_r15, w ∈ lw_tbl := kmem [1048, 1049, 1050, 1052, 36, 1053, 882, 883, 884, 888, 889, 885, 1054, 1056, 37, 1057, 886, 1062, 1063, 1064, 1065, 887, 1058, 1060] (by decide +kernel)
set_option maxRecDepth 20000 in
theorem kin_16 : ∀ w ∈ wsL_law_r16, w ∈ lw_tbl := kmem [38, 1061, 1066, 1068, 39, 1069, 1070, 1072, 40, 1073, 1074, 1076, 41, 1077, 1078, 1080, 42, 1081, 890, 1082, 1084, 43, 1085, 1086] (by decide +kernel)
set_option maxRecDepth 20000 in
theorem kin_17 : ∀ w ∈ wsL_law_r17, w ∈ lw_tbl := kmem [1088, 44, 1089, 1090, 1092, 45, 1093, 1139, 1094, 1096, 46, 1097, 1098, 1100, 47, 1101, 1102, 1104, 48, 1105, 1106, 1108, 49, 1109] (by decide +kernel)
set_option maxRecDepth 20000 in
theorem kin_18 : ∀ w ∈ wsL_law_r18, w ∈ lw_tbl := kmem [1110, 1112, 50, 1113, 1114, 1116, 51, 1117, 1118, 1120, 52, 1121, 1138, 1122, 1124, 53, 1125, 1126, 1128, 54, 1129, 1130, 1132, 55] (by decide +kernel)
set_option maxRecDepth 20000 in
theorem kin_19 : ∀ w ∈ wsL_law_r19, w ∈ lw_tbl := kmem [1133, 1134, 1136, 56, 1137, 1140, 1142, 57, 1143, 1144, 1146, 58, 1147, 1148, 1150, 59, 1151, 1152, 1154, 60, 1155, 1156, 1158, 61] (by decide +kernel)
set_option maxRecDepth 20000 in
theorem kin_20 : ∀ w ∈ wsL_law_r20, w ∈ lw_tbl := kmem [1159, 1160, 1162, 62, 1163, 1164, 1166, 63, 1167, 1168, 1170, 64, 1171, 1172, 1174, 65, 1175, 1176, 1178, 66, 1179, 1180, 1182, 67] (by decide +kernel)
set_option maxRecDepth 20000 in
theorem kin_21 : ∀ w ∈ wsL_law_r21, w ∈ lw_tbl := kmem [1183, 1184, 1186, 68, 1187, 1188, 1190, 69, 1191, 1192, 1194, 70, 1195, 1196, 1198, 71, 1199, 1200, 1202, 72, 1203, 1204, 1206, 73] (by decide +kernel)
set_option maxRecDepth 20000 in
theorem kin_22 : ∀ w ∈ wsL_law_r22, w ∈ lw_tbl := kmem [1207, 1208, 1210, 74, 1211, 1212, 1214, 75, 1215, 1216, 1218, 76, 1219, 1220, 1222, 77, 1223, 1224, 1226, 78, 1227, 1228, 1230, 79] (by decide +kernel)
set_option maxRecDepth 20000 in
theorem kin_23 : ∀ w ∈ wsL_law_r23, w ∈ lw_tbl := kmem [1231, 1232, 1234, 80, 1235, 1236, 1238, 81, 1239, 1240, 1241, 1242, 1243, 1245, 82, 1246, 1247, 1249, 83, 1250, 487, 488, 489, 490] (by decide +kernel)
set_option maxRecDepth 20000 in
theorem kin_24 : ∀ w ∈ wsL_law_r24, w ∈ lw_tbl := kmem [491, 493, 14, 494, 495, 496, 497, 498, 408, 1251, 1252, 1253, 1254, 1255, 1256, 1258, 84, 1259, 499, 500, 501, 502, 419, 503] (by decide +kernel)
set_option maxRecDepth 20000 in
theorem kin_25 : ∀ w ∈ wsL_law_r25, w ∈ lw_tbl := kmem [505, 15, 506, 507, 508, 509, 510, 1260, 1261, 1262, 1263, 1264, 1266, 85, 1267, 511, 512, 513, 514, 413, 515, 516, 517, 518] (by decide +kernel)
set_option maxRecDepth 20000 in
theorem kin_26 : ∀ w ∈ wsL_law_r26, w ∈ lw_tbl := kmem [519, 520, 521, 522, 523, 524, 525, 526, 527, 528, 529, 530, 531, 533, 16, 534, 403, 536, 537, 120, 538, 535, 539, 540] (by decide +kernel)
set_option maxRecDepth 20000 in
theorem kin_27 : ∀ w ∈ wsL_law_r27, w ∈ lw_tbl := kmem [541, 542, 549, 550, 551, 552, 553, 554, 543, 544, 545, 546, 547, 548, 1268, 555, 556, 557, 558, 138, 1269, 1270, 1271, 1272] (by decide +kernel)
set_option maxRecDepth 20000 in
theorem kin_28 : ∀ w ∈ wsL_law_r28, w ∈ lw_tbl := kmem [1273, 868, 559, 560, 561, 562, 1274, 1275, 1276, 1277, 563, 564, 565, 566, 411, 184, 1278, 1279, 1280, 1281, 567, 568, 569, 570] (by decide +kernel)
set_option maxRecDepth 20000 in
theorem kin_29 : ∀ w ∈ wsL_law_r29, w ∈ lw_tbl := kmem [571, 572, 573, 574, 575, 576, 577, 578, 579, 580, 581, 1282, 1283, 1284, 1285, 1286, 1288, 86, 1289, 1290, 1292, 87, 1293, 582] (by decide +kernel)
set_option maxRecDepth 20000 in
theorem kin_30 : ∀ w ∈ wsL_law_r30, w ∈ lw_tbl := kmem [583, 584, 585, 586, 587, 588, 589, 591, 590, 592, 593, 594, 595, 596, 1294, 1295, 1296, 1297, 1298, 1300, 88, 1301, 1302, 1304] (by decide +kernel)
set_option maxRecDepth 20000 in
theorem kin_31 : ∀ w ∈ wsL_law_r31, w ∈ lw_tbl := kmem [89, 1305, 597, 598, 599, 600, 601, 602, 603, 604, 606, 605, 1306, 1307, 1308, 1309, 1310, 1312, 90, 1313, 607, 608, 609, 610] (by decide +kernel)
set_option maxRecDepth 20000 in
theorem kin_32 : ∀ w ∈ wsL_law_r32, w ∈ lw_tbl := kmem [611, 613, 17, 614, 615, 616, 617, 618, 407, 169, 619, 620, 621, 622, 623, 624, 625, 626, 627, 628, 630, 18, 631, 632] (by decide +kernel)
set_option maxRecDepth 20000 in
theorem kin_33 : ∀ w ∈ wsL_law_r33, w ∈ lw_tbl := kmem [634, 19, 635, 636, 637, 638, 639, 647, 640, 641, 642, 121, 643, 644, 645, 646, 648, 649, 650, 651, 652, 653, 654, 655] (by decide +kernel)
set_option maxRecDepth 20000 in
theorem kin_34 : ∀ w ∈ wsL_law_r34, w ∈ lw_tbl := kmem [656, 657, 658, 659, 660, 661, 662, 663, 664, 666, 20, 667, 668, 1314, 1315, 1316, 1317, 1318, 1320, 91, 1321, 1322, 1324, 92] (by decide +kernel)
set_option maxRecDepth 20000 in
theorem kin_35 : ∀ w ∈ wsL_law_r35, w ∈ lw_tbl := kmem [1325, 1326, 1328, 93, 1329, 1330, 1332, 94, 1333, 1334, 1336, 95, 1337, 1338, 1340, 96, 1341, 1342, 1344, 97, 1345, 669, 670, 671] (by decide +kernel)
set_option maxRecDepth 20000 in
theorem kin_36 : ∀ w ∈ wsL_law_r36, w ∈ lw_tbl := kmem [672, 673, 1346, 1347, 1348, 1349, 674, 675, 676, 677, 678, 679, 680, 681, 682, 683, 684, 685, 687, 686, 122, 688, 689, 690] (by decide +kernel)
set_option maxRecDepth 20000 in
theorem kin_37 : ∀ w ∈ wsL_law_r37, w ∈ lw_tbl := kmem [691, 692, 693, 694, 1350, 1351, 1352, 1353, 1354, 1355, 1356, 1358, 98, 1359, 896, 1360, 1362, 99, 1363, 1364, 1366, 100, 1367, 695] (by decide +kernel)
set_option maxRecDepth 20000 in
theorem kin_38 : ∀ w ∈ wsL_law_r38, w ∈ lw_tbl := kmem [696, 697, 698, 699, 700, 701, 1368, 1369, 1370, 1371, 1372, 702, 703, 704, 705, 1373, 1374, 1375, 1376, 1377, 1379, 101, 1380, 706] (by decide +kernel)
set_option maxRecDepth 20000 in
theorem kin_39 : ∀ w ∈ wsL_law_r39, w ∈ lw_tbl := kmem [707, 708, 709, 710, 712, 21, 713, 1381, 1382, 1383, 1384, 714, 715, 716, 717, 1385, 1386, 1387, 1388, 1389, 1390, 1392, 102, 1393] (by decide +kernel)
set_option maxRecDepth 20000 in
theorem kin_40 : ∀ w ∈ wsL_law_r40, w ∈ lw_tbl := kmem [1394, 1396, 103, 1397, 718, 719, 720, 721, 1398, 1399, 1400, 1401, 722, 723, 724, 725, 726, 727, 728, 729, 730, 1402, 1403, 1404] (by decide +kernel)
set_option maxRecDepth 20000 in
theorem kin_41 : ∀ w ∈ wsL_law_r41, w ∈ lw_tbl := kmem [1405, 731, 732, 733, 734, 208, 735, 736, 737, 738, 739, 740, 741, 742, 744, 22, 745, 746, 747, 748, 749, 207, 750, 752] (by decide +kernel)
set_option maxRecDepth 20000 in
theorem kin_42 : ∀ w ∈ wsL_law_r42, w ∈ lw_tbl := kmem [23, 753, 754, 756, 24, 757, 210, 758, 760, 25, 761, 762, 764, 26, 765, 766, 768, 27, 769, 770, 772, 28, 773, 1406] (by decide +kernel)
set_option maxRecDepth 20000 in
theorem kin_43 : ∀ w ∈ wsL_law_r43, w ∈ lw_tbl := kmem [1407, 1408, 1409, 1413, 1410, 1411, 1412, 1414, 1416, 104, 1417, 1418, 1420, 105, 1421, 774, 775, 776, 777, 778, 779, 780, 781, 782] (by decide +kernel)
set_option maxRecDepth 20000 in
theorem kin_44 : ∀ w ∈ wsL_law_r44, w ∈ lw_tbl := kmem [783, 784, 785, 1422, 1423, 1424, 1425, 1426, 1427, 1428, 1429, 786, 787, 788, 789, 790, 792, 29, 793, 794, 1430, 1431, 1432, 1433] (by decide +kernel)
set_option maxRecDepth 20000 in
theorem kin_45 : ∀ w ∈ wsL_law_r45, w ∈ lw_tbl := kmem [1434, 1436, 106, 1437, 1438, 795, 796, 797, 798, 799, 800, 801, 802, 803, 1439, 1440, 1441, 1442, 1443, 804, 805, 806, 807, 447] (by decide +kernel)
set_option maxRecDepth 20000 in
theorem kin_46 : ∀ w ∈ wsL_law_r46, w ∈ lw_tbl := kmem [1444, 1445, 1446, 1447, 902, 903, 904, 808, 809, 810, 811, 1448, 1449, 1450, 1451, 812, 813, 814, 815, 816, 817, 818, 819, 1452] (by decide +kernel)
set_option maxRecDepth 20000 in
theorem kin_47 : ∀ w ∈ wsL_law_r47, w ∈ lw_tbl := kmem [1453, 1454, 1455, 820, 821, 822, 823, 824, 825, 826, 1456, 827, 828, 829, 830, 831, 832, 833, 834, 1457, 1458, 1459, 1460, 835] (by decide +kernel)
set_option maxRecDepth 20000 in
theorem kin_48 : ∀ w ∈ wsL_law_r48, w ∈ lw_tbl := kmem [836, 837, 838, 206, 839, 1461, 1462, 1463, 1464, 840, 841, 842, 843, 1465, 1466, 1467, 1468, 1469, 1470, 844, 845, 846, 847, 848] (by decide +kernel)
set_option maxRecDepth 20000 in
theorem kin_49 : ∀ w ∈ wsL_law_r49, w ∈ lw_tbl := kmem [849, 850, 851, 1471, 1472, 1473, 1474, 1475, 1476, 1477] (by decide +kernel)
set_option maxRecDepth 20000 in
theorem kin_wsX60 : ∀ w ∈ wsX60, w ∈ lw_tbl := kmem [450, 452, 454, 456, 458, 460, 462, 464, 466, 468] (by decide +kernel)
set_option maxRecDepth 20000 in
theorem kin_wsX70 : ∀ w ∈ wsX70, w ∈ lw_tbl := kmem [909, 911, 913, 915, 917, 919, 921, 923, 925, 927, 929, 931, 933, 935, 937, 939, 941, 943, 945, 947, 949, 951, 953, 955, 957, 959, 961, 963, 965, 967, 969, 971, 973, 975, 977, 979, 981, 983, 985, 987, 989, 991, 993, 995, 997, 999, 1001] (by decide +kernel)
set_option maxRecDepth 20000 in
theorem kin_wsX40 : ∀ w ∈ wsX40, w ∈ lw_tbl := kmem [147, 149, 151, 153, 155, 157] (by decide +kernel)
set_option maxRecDepth 20000 in
theorem kin_wsX00 : ∀ w ∈ wsX00, w ∈ lw_tbl := kmem [171, 173] (by decide +kernel)
set_option maxRecDepth 20000 in
theorem kin_wsX50 : ∀ w ∈ wsX50, w ∈ lw_tbl := kmem [189, 191, 193, 195, 197] (by decide +kernel)
set_option maxRecDepth 20000 in
theorem kin_wsX20 : ∀ w ∈ wsX20, w ∈ lw_tbl := kmem [211, 213, 215] (by decide +kernel)
set_option maxRecDepth 20000 in
theorem kin_wsX10 : ∀ w ∈ wsX10, w ∈ lw_tbl := kmem [282, 284, 286, 288, 290] (by decide +kernel)
set_option maxRecDepth 20000 in
theorem kin_wsX30 : ∀ w ∈ wsX30, w ∈ lw_tbl := kmem [421, 423, 425, 427, 429, 431, 433, 435, 437] (by decide +kernel)
theorem wsL_law_in : ∀ w ∈ wsL_law, w ∈ lw_tbl := List.forall_mem_append.mpr ⟨List.forall_mem_append.mpr ⟨List.forall_mem_append.mpr ⟨List.forall_mem_append.mpr ⟨List.forall_mem_append.mpr ⟨List.forall_mem_append.mpr ⟨List.forall_mem_append.mpr ⟨List.forall_mem_append.mpr ⟨List.forall_mem_append.mpr ⟨List.forall_mem_append.mpr ⟨kin_1, List.forall_mem_append.mpr ⟨kin_2, List.forall_mem_append.mpr ⟨kin_3, List.forall_mem_append.mpr ⟨kin_4, List.forall_mem_append.mpr ⟨kin_5, List.forall_mem_append.mpr ⟨kin_6, List.forall_mem_append.mpr ⟨kin_7, List.forall_mem_append.mpr ⟨kin_8, List.forall_mem_append.mpr ⟨kin_9, List.forall_mem_append.mpr ⟨kin_10, List.forall_mem_append.mpr ⟨kin_11, List.forall_mem_append.mpr ⟨kin_12, List.forall_mem_append.mpr ⟨kin_13, List.forall_mem_append.mpr ⟨kin_14, List.forall_mem_append.mpr ⟨kin_15, List.forall_mem_append.mpr ⟨kin_16, List.forall_mem_append.mpr ⟨kin_17, List.forall_mem_append.mpr ⟨kin_18, List.forall_mem_append.mpr ⟨kin_19, List.forall_mem_append.mpr ⟨kin_20, List.forall_mem_append.mpr ⟨kin_21, List.forall_mem_append.mpr ⟨kin_22, List.forall_mem_append.mpr ⟨kin_23, List.forall_mem_append.mpr ⟨kin_24, List.forall_mem_append.mpr ⟨kin_25, List.forall_mem_append.mpr ⟨kin_26, List.forall_mem_append.mpr ⟨kin_27, List.forall_mem_append.mpr ⟨kin_28, List.forall_mem_append.mpr ⟨kin_29, List.forall_mem_append.mpr ⟨kin_30, List.forall_mem_append.mpr ⟨kin_31, List.forall_mem_append.mpr ⟨kin_32, List.forall_mem_append.mpr ⟨kin_33, List.forall_mem_append.mpr ⟨kin_34, List.forall_mem_append.mpr ⟨kin_35, List.forall_mem_append.mpr ⟨kin_36, List.forall_mem_append.mpr ⟨kin_37, List.forall_mem_append.mpr ⟨kin_38, List.forall_mem_append.mpr ⟨kin_39, List.forall_mem_append.mpr ⟨kin_40, List.forall_mem_append.mpr ⟨kin_41, List.forall_mem_append.mpr ⟨kin_42, List.forall_mem_append.mpr ⟨kin_43, List.forall_mem_append.mpr ⟨kin_44, List.forall_mem_append.mpr ⟨kin_45, List.forall_mem_append.mpr ⟨kin_46, List.forall_mem_append.mpr ⟨kin_47, List.forall_mem_append.mpr ⟨kin_48, kin_49⟩⟩⟩⟩⟩⟩⟩⟩⟩⟩⟩⟩⟩⟩⟩⟩⟩⟩⟩⟩⟩⟩⟩⟩⟩⟩⟩⟩⟩⟩⟩⟩⟩⟩⟩⟩⟩⟩⟩⟩⟩⟩⟩⟩⟩⟩⟩⟩, kin_wsX60⟩, kin_wsX70⟩, kin_wsX40⟩, kin_wsX00⟩, kin_wsX50⟩, kin_wsX20⟩, kin_wsX10⟩, kin_wsX30⟩, fun _ h => absurd h List.not_mem_nil⟩
