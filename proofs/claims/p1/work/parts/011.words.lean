theorem kmem {big ws : List Cond} (ps : List Nat) (h : ps.map (fun i => big[i]?) = ws.map some) : ∀ w ∈ ws, w ∈ big := by
  intro w hw
  have h1 : some w ∈ ps.map (fun i => big[i]?) := by rw [h]; exact List.mem_map.mpr ⟨w, hw, rfl⟩
  obtain ⟨i, -, hi⟩ := List.mem_map.mp h1
  exact List.mem_of_getElem? hi
set_option maxRecDepth 20000 in
theorem kin_1 : ∀ w ∈ wsL_law_r1, w ∈ lw_tbl := kmem [127, 130, 135, 167, 181, 203, 222, 226, 232, 236, 239, 242, 247, 250, 253, 256, 260, 270, 275, 297, 301, 305, 308, 311] (by decide +kernel)
set_option maxRecDepth 20000 in
theorem kin_2 : ∀ w ∈ wsL_law_r2, w ∈ lw_tbl := kmem [315, 318, 322, 326, 331, 342, 352, 356, 360, 364, 368, 380, 376, 383, 386, 372, 390, 394, 399, 857, 862, 474, 478, 486] (by decide +kernel)
set_option maxRecDepth 20000 in
theorem kin_3 : ∀ w ∈ wsL_law_r3, w ∈ lw_tbl := kmem [1008, 1012, 1016, 1019, 1027, 1034, 1038, 1042, 1046, 1049, 1053, 1057, 1061, 1069, 1073, 1077, 1081, 1085, 1089, 1093, 1097, 1101, 1105, 1109] (by decide +kernel)
set_option maxRecDepth 20000 in
theorem kin_4 : ∀ w ∈ wsL_law_r4, w ∈ lw_tbl := kmem [1113, 1117, 1121, 1125, 1129, 1133, 1137, 1143, 1147, 1151, 1155, 1159, 1163, 1167, 1171, 1175, 1179, 1183, 1187, 1191, 1195, 1199, 1203, 1207] (by decide +kernel)
set_option maxRecDepth 20000 in
theorem kin_5 : ∀ w ∈ wsL_law_r5, w ∈ lw_tbl := kmem [1211, 1215, 1219, 1223, 1227, 1231, 1235, 1239, 1242, 1246, 1250, 490, 494, 498, 1254, 1259, 502, 506, 510, 1263, 1267, 514, 518, 522] (by decide +kernel)
set_option maxRecDepth 20000 in
theorem kin_6 : ∀ w ∈ wsL_law_r6, w ∈ lw_tbl := kmem [526, 530, 534, 538, 542, 551, 554, 545, 548, 558, 1272, 562, 1277, 566, 1281, 570, 573, 577, 581, 1285, 1289, 1293, 585, 589] (by decide +kernel)
set_option maxRecDepth 20000 in
theorem kin_7 : ∀ w ∈ wsL_law_r7, w ∈ lw_tbl := kmem [596, 1297, 1301, 1305, 600, 604, 1309, 1313, 610, 614, 618, 623, 627, 631, 635, 639, 643, 651, 655, 659, 663, 667, 1317, 1321] (by decide +kernel)
set_option maxRecDepth 20000 in
theorem kin_8 : ∀ w ∈ wsL_law_r8, w ∈ lw_tbl := kmem [1325, 1329, 1333, 1337, 1341, 1345, 672, 1349, 677, 680, 684, 691, 1353, 1359, 1363, 1367, 698, 701, 1371, 705, 1376, 1380, 709, 713] (by decide +kernel)
set_option maxRecDepth 20000 in
theorem kin_9 : ∀ w ∈ wsL_law_r9, w ∈ lw_tbl := kmem [1384, 717, 1388, 1393, 1397, 721, 1401, 725, 730, 1405, 734, 737, 741, 745, 749, 753, 757, 761, 765, 769, 773, 1409, 1412, 1417] (by decide +kernel)
set_option maxRecDepth 20000 in
theorem kin_10 : ∀ w ∈ wsL_law_r10, w ∈ lw_tbl := kmem [1421, 777, 781, 785, 1425, 1429, 789, 793, 1433, 1437, 798, 802, 1442, 807, 1447, 811, 1451, 815, 819, 1455, 823, 826, 830, 834] (by decide +kernel)
set_option maxRecDepth 20000 in
theorem kin_11 : ∀ w ∈ wsL_law_r11, w ∈ lw_tbl := kmem [1460, 838, 1464, 843, 1468, 847, 850, 1474, 1477] (by decide +kernel)
set_option maxRecDepth 20000 in
theorem kin_12 : ∀ w ∈ wsL_law_r12, w ∈ lw_tbl := kmem [] (by decide +kernel)
set_option maxRecDepth 20000 in
theorem kin_13 : ∀ w ∈ wsL_law_r13, w ∈ lw_tbl := kmem [] (by decide +kernel)
set_option maxRecDepth 20000 in
theorem kin_14 : ∀ w ∈ wsL_law_r14, w ∈ lw_tbl := kmem [] (by decide +kernel)
set_option maxRecDepth 20000 in
theorem kin_15 : ∀ w ∈ wsL_law_r15, w ∈ lw_tbl := kmem [] (by decide +kernel)
set_option maxRecDepth 20000 in
theorem kin_16 : ∀ w ∈ wsL_law_r16, w ∈ lw_tbl := kmem [] (by decide +kernel)
set_option maxRecDepth 20000 in
theorem kin_17 : ∀ w ∈ wsL_law_r17, w ∈ lw_tbl := kmem [] (by decide +kernel)
set_option maxRecDepth 20000 in
theorem kin_18 : ∀ w ∈ wsL_law_r18, w ∈ lw_tbl := kmem [] (by decide +kernel)
set_option maxRecDepth 20000 in
theorem kin_19 : ∀ w ∈ wsL_law_r19, w ∈ lw_tbl := kmem [] (by decide +kernel)
set_option maxRecDepth 20000 in
theorem kin_20 : ∀ w ∈ wsL_law_r20, w ∈ lw_tbl := kmem [] (by decide +kernel)
set_option maxRecDepth 20000 in
theorem kin_21 : ∀ w ∈ wsL_law_r21, w ∈ lw_tbl := kmem [] (by decide +kernel)
set_option maxRecDepth 20000 in
theorem kin_22 : ∀ w ∈ wsL_law_r22, w ∈ lw_tbl := kmem [] (by decide +kernel)
set_option maxRecDepth 20000 in
theorem kin_23 : ∀ w ∈ wsL_law_r23, w ∈ lw_tbl := kmem [] (by decide +kernel)
set_option maxRecDepth 20000 in
theorem kin_24 : ∀ w ∈ wsL_law_r24, w ∈ lw_tbl := kmem [] (by decide +kernel)
set_option maxRecDepth 20000 in
theorem kin_25 : ∀ w ∈ wsL_law_r25, w ∈ lw_tbl := kmem [] (by decide +kernel)
set_option maxRecDepth 20000 in
theorem kin_26 : ∀ w ∈ wsL_law_r26, w ∈ lw_tbl := kmem [] (by decide +kernel)
set_option maxRecDepth 20000 in
theorem kin_27 : ∀ w ∈ wsL_law_r27, w ∈ lw_tbl := kmem [] (by decide +kernel)
set_option maxRecDepth 20000 in
theorem kin_28 : ∀ w ∈ wsL_law_r28, w ∈ lw_tbl := kmem [] (by decide +kernel)
set_option maxRecDepth 20000 in
theorem kin_29 : ∀ w ∈ wsL_law_r29, w ∈ lw_tbl := kmem [] (by decide +kernel)
set_option maxRecDepth 20000 in
theorem kin_30 : ∀ w ∈ wsL_law_r30, w ∈ lw_tbl := kmem [] (by decide +kernel)
set_option maxRecDepth 20000 in
theorem kin_31 : ∀ w ∈ wsL_law_r31, w ∈ lw_tbl := kmem [] (by decide +kernel)
set_option maxRecDepth 20000 in
theorem kin_32 : ∀ w ∈ wsL_law_r32, w ∈ lw_tbl := kmem [] (by decide +kernel)
set_option maxRecDepth 20000 in
theorem kin_33 : ∀ w ∈ wsL_law_r33, w ∈ lw_tbl := kmem [] (by decide +kernel)
set_option maxRecDepth 20000 in
theorem kin_34 : ∀ w ∈ wsL_law_r34, w ∈ lw_tbl := kmem [] (by decide +kernel)
set_option maxRecDepth 20000 in
theorem kin_35 : ∀ w ∈ wsL_law_r35, w ∈ lw_tbl := kmem [] (by decide +kernel)
set_option maxRecDepth 20000 in
theorem kin_36 : ∀ w ∈ wsL_law_r36, w ∈ lw_tbl := kmem [] (by decide +kernel)
set_option maxRecDepth 20000 in
theorem kin_37 : ∀ w ∈ wsL_law_r37, w ∈ lw_tbl := kmem [] (by decide +kernel)
set_option maxRecDepth 20000 in
theorem kin_38 : ∀ w ∈ wsL_law_r38, w ∈ lw_tbl := kmem [] (by decide +kernel)
set_option maxRecDepth 20000 in
theorem kin_39 : ∀ w ∈ wsL_law_r39, w ∈ lw_tbl := kmem [] (by decide +kernel)
set_option maxRecDepth 20000 in
theorem kin_40 : ∀ w ∈ wsL_law_r40, w ∈ lw_tbl := kmem [] (by decide +kernel)
set_option maxRecDepth 20000 in
theorem kin_41 : ∀ w ∈ wsL_law_r41, w ∈ lw_tbl := kmem [] (by decide +kernel)
set_option maxRecDepth 20000 in
theorem kin_42 : ∀ w ∈ wsL_law_r42, w ∈ lw_tbl := kmem [] (by decide +kernel)
set_option maxRecDepth 20000 in
theorem kin_43 : ∀ w ∈ wsL_law_r43, w ∈ lw_tbl := kmem [] (by decide +kernel)
set_option maxRecDepth 20000 in
theorem kin_44 : ∀ w ∈ wsL_law_r44, w ∈ lw_tbl := kmem [] (by decide +kernel)
set_option maxRecDepth 20000 in
theorem kin_45 : ∀ w ∈ wsL_law_r45, w ∈ lw_tbl := kmem [] (by decide +kernel)
set_option maxRecDepth 20000 in
theorem kin_46 : ∀ w ∈ wsL_law_r46, w ∈ lw_tbl := kmem [] (by decide +kernel)
set_option maxRecDepth 20000 in
theorem kin_47 : ∀ w ∈ wsL_law_r47, w ∈ lw_tbl := kmem [] (by decide +kernel)
set_option maxRecDepth 20000 in
theorem kin_48 : ∀ w ∈ wsL_law_r48, w ∈ lw_tbl := kmem [] (by decide +kernel)
set_option maxRecDepth 20000 in
theorem kin_49 : ∀ w ∈ wsL_law_r49, w ∈ lw_tbl := kmem [] (by decide +kernel)
set_option maxRecDepth 20000 in
theorem kin_wsX60 : ∀ w ∈ wsX60, w ∈ lw_tbl := kmem [] (by decide +kernel)
set_option maxRecDepth 20000 in
theorem kin_wsX70 : ∀ w ∈ wsX70, w ∈ lw_tbl := kmem [] (by decide +kernel)
set_option maxRecDepth 20000 in
theorem kin_wsX40 : ∀ w ∈ wsX40, w ∈ lw_tbl := kmem [] (by decide +kernel)
set_option maxRecDepth 20000 in
theorem kin_wsX00 : ∀ w ∈ wsX00, w ∈ lw_tbl := kmem [] (by decide +kernel)
set_option maxRecDepth 20000 in
theorem kin_wsX50 : ∀ w ∈ wsX50, w ∈ lw_tbl := kmem [] (by decide +kernel)
set_option maxRecDepth 20000 in
theorem kin_wsX20 : ∀ w ∈ wsX20, w ∈ lw_tbl := kmem [] (by decide +kernel)
set_option maxRecDepth 20000 in
theorem kin_wsX10 : ∀ w ∈ wsX10, w ∈ lw_tbl := kmem [] (by decide +kernel)
set_option maxRecDepth 20000 in
theorem kin_wsX30 : ∀ w ∈ wsX30, w ∈ lw_tbl := kmem [] (by decide +kernel)
theorem wsL_law_in : ∀ w ∈ wsL_law, w ∈ lw_tbl := List.forall_mem_append.mpr ⟨List.forall_mem_append.mpr ⟨List.forall_mem_append.mpr ⟨List.forall_mem_append.mpr ⟨List.forall_mem_append.mpr ⟨List.forall_mem_append.mpr ⟨List.forall_mem_append.mpr ⟨List.forall_mem_append.mpr ⟨List.forall_mem_append.mpr ⟨List.forall_mem_append.mpr ⟨kin_1, List.forall_mem_append.mpr ⟨kin_2, List.forall_mem_append.mpr ⟨kin_3, List.forall_mem_append.mpr ⟨kin_4, List.forall_mem_append.mpr ⟨kin_5, List.forall_mem_append.mpr ⟨kin_6, List.forall_mem_append.mpr ⟨kin_7, List.forall_mem_append.mpr ⟨kin_8, List.forall_mem_append.mpr ⟨kin_9, List.forall_mem_append.mpr ⟨kin_10, List.forall_mem_append.mpr ⟨kin_11, List.forall_mem_append.mpr ⟨kin_12, List.forall_mem_append.mpr ⟨kin_13, List.forall_mem_append.mpr ⟨kin_14, List.forall_mem_append.mpr ⟨kin_15, List.forall_mem_append.mpr ⟨kin_16, List.forall_mem_append.mpr ⟨kin_17, List.forall_mem_append.mpr ⟨kin_18, List.forall_mem_append.mpr ⟨kin_19, List.forall_mem_append.mpr ⟨kin_20, List.forall_mem_append.mpr ⟨kin_21, List.forall_mem_append.mpr ⟨kin_22, List.forall_mem_append.mpr ⟨kin_23, List.forall_mem_append.mpr ⟨kin_24, List.forall_mem_append.mpr ⟨kin_25, List.forall_mem_append.mpr ⟨kin_26, List.forall_mem_append.mpr ⟨kin_27, List.forall_mem_append.mpr ⟨kin_28, List.forall_mem_append.mpr ⟨kin_29, List.forall_mem_append.mpr ⟨kin_30, List.forall_mem_append.mpr ⟨kin_31, List.forall_mem_append.mpr ⟨kin_32, List.forall_mem_append.mpr ⟨kin_33, List.forall_mem_append.mpr ⟨kin_34, List.forall_mem_append.mpr ⟨kin_35, List.forall_mem_append.mpr ⟨kin_36, List.forall_mem_append.mpr ⟨kin_37, List.forall_mem_append.mpr ⟨kin_38, List.forall_mem_append.mpr ⟨kin_39, List.forall_mem_append.mpr ⟨kin_40, List.forall_mem_append.mpr ⟨kin_41, List.forall_mem_append.mpr ⟨kin_42, List.forall_mem_append.mpr ⟨kin_43, List.forall_mem_append.mpr ⟨kin_44, List.forall_mem_append.mpr ⟨kin_45, List.forall_mem_append.mpr ⟨kin_46, List.forall_mem_append.mpr ⟨kin_47, List.forall_mem_append.mpr ⟨kin_48, kin_49⟩⟩⟩⟩⟩⟩⟩⟩⟩⟩⟩⟩⟩⟩⟩⟩⟩⟩⟩⟩⟩⟩⟩⟩⟩⟩⟩⟩⟩⟩⟩⟩⟩⟩⟩⟩⟩⟩⟩⟩⟩⟩⟩⟩⟩⟩⟩⟩, kin_wsX60⟩, kin_wsX70⟩, kin_wsX40⟩, kin_wsX00⟩, kin_wsX50⟩, kin_wsX20⟩, kin_wsX10⟩, kin_wsX30⟩, fun _ h => absurd h List.not_mem_nil⟩
