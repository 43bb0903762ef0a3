theorem pMT_ok_0 : ra_b2 cdOk [138, 146, 152, 177, 183, 188, 191, 231, 258, 263, 352, 376, 419, 510, 514, 518, 522, 526, 529, 533, 536, 540, 544, 547, 552, 556, 561, 564, 569, 572, 575, 578, 582, 592, 595, 599, 604, 608, 612, 616] pMT_0 = true := by decide +kernel
theorem pMT_eq_0 : pMT_0.map (fun mm => mm.2.1) = List.map cbP [138, 146, 152, 177, 183, 188, 191, 231, 258, 263, 352, 376, 419, 510, 514, 518, 522, 526, 529, 533, 536, 540, 544, 547, 552, 556, 561, 564, 569, 572, 575, 578, 582, 592, 595, 599, 604, 608, 612, 616] := by
  unfold pMT_0
  simp only [List.map_cons, List.map_nil, mt_0, mt_1, mt_2, mt_3, mt_4, mt_5, mt_6, mt_7, mt_8, mt_9, mt_10, mt_11, mt_12, mt_13, mt_14, mt_15, mt_16, mt_17, mt_18, mt_19, mt_20, mt_21, mt_22, mt_23, mt_24, mt_25, mt_26, mt_27, mt_28, mt_29, mt_30, mt_31, mt_32, mt_33, mt_34, mt_35, mt_36, mt_37, mt_38, mt_39]
theorem pMT_ok_1 : ra_b2 cdOk [619, 622, 625, 629, 632, 638, 641, 644, 647, 650, 653, 656, 659, 663, 669, 673, 677, 681, 685, 689, 693, 697, 701, 705, 709, 713, 717, 721, 725, 729, 733, 737, 741, 745, 752, 756, 762, 766, 770, 774] pMT_1 = true := by decide +kernel
theorem pMT_eq_1 : pMT_1.map (fun mm => mm.2.1) = List.map cbP [619, 622, 625, 629, 632, 638, 641, 644, 647, 650, 653, 656, 659, 663, 669, 673, 677, 681, 685, 689, 693, 697, 701, 705, 709, 713, 717, 721, 725, 729, 733, 737, 741, 745, 752, 756, 762, 766, 770, 774] := by
  unfold pMT_1
  simp only [List.map_cons, List.map_nil, mt_40, mt_41, mt_42, mt_43, mt_44, mt_45, mt_46, mt_47, mt_48, mt_49, mt_50, mt_51, mt_52, mt_53, mt_54, mt_55, mt_56, mt_57, mt_58, mt_59, mt_60, mt_61, mt_62, mt_63, mt_64, mt_65, mt_66, mt_67, mt_68, mt_69, mt_70, mt_71, mt_72, mt_73, mt_74, mt_75, mt_76, mt_77, mt_78, mt_79]
theorem pMT_ok_2 : ra_b2 cdOk [778, 782, 788, 792, 795, 799, 802, 805, 809, 813, 817, 821, 825, 829, 834, 839, 843, 847, 852, 856, 861, 865, 869, 873, 877, 880, 884, 888, 892, 896, 900, 904, 908, 911, 915, 919, 923, 928, 932, 937] pMT_2 = true := by decide +kernel
theorem pMT_eq_2 : pMT_2.map (fun mm => mm.2.1) = List.map cbP [778, 782, 788, 792, 795, 799, 802, 805, 809, 813, 817, 821, 825, 829, 834, 839, 843, 847, 852, 856, 861, 865, 869, 873, 877, 880, 884, 888, 892, 896, 900, 904, 908, 911, 915, 919, 923, 928, 932, 937] := by
  unfold pMT_2
  simp only [List.map_cons, List.map_nil, mt_80, mt_81, mt_82, mt_83, mt_84, mt_85, mt_86, mt_87, mt_88, mt_89, mt_90, mt_91, mt_92, mt_93, mt_94, mt_95, mt_96, mt_97, mt_98, mt_99, mt_100, mt_101, mt_102, mt_103, mt_104, mt_105, mt_106, mt_107, mt_108, mt_109, mt_110, mt_111, mt_112, mt_113, mt_114, mt_115, mt_116, mt_117, mt_118, mt_119]
theorem pMT_ok_3 : ra_b2 cdOk [941, 945, 949, 953, 957, 962, 966, 971, 975, 979, 983, 987, 991, 996, 1000, 1004, 1007, 1011, 1015, 1020, 1024, 1028, 1032, 1036, 1040, 1044, 1048, 1052, 1056, 1059, 1066, 1070, 1074, 1078, 1084, 1088, 1092, 1096, 1100, 1104] pMT_3 = true := by decide +kernel
theorem pMT_eq_3 : pMT_3.map (fun mm => mm.2.1) = List.map cbP [941, 945, 949, 953, 957, 962, 966, 971, 975, 979, 983, 987, 991, 996, 1000, 1004, 1007, 1011, 1015, 1020, 1024, 1028, 1032, 1036, 1040, 1044, 1048, 1052, 1056, 1059, 1066, 1070, 1074, 1078, 1084, 1088, 1092, 1096, 1100, 1104] := by
  unfold pMT_3
  simp only [List.map_cons, List.map_nil, mt_120, mt_121, mt_122, mt_123, mt_124, mt_125, mt_126, mt_127, mt_128, mt_129, mt_130, mt_131, mt_132, mt_133, mt_134, mt_135, mt_136, mt_137, mt_138, mt_139, mt_140, mt_141, mt_142, mt_143, mt_144, mt_145, mt_146, mt_147, mt_148, mt_149, mt_150, mt_151, mt_152, mt_153, mt_154, mt_155, mt_156, mt_157, mt_158, mt_159]
theorem pMT_ok_4 : ra_b2 cdOk [1108, 1112, 1116, 1119, 1123, 1127, 1131, 1135, 1139, 1143, 1148, 1152, 1156, 1160, 1164, 1169, 1173, 1177, 1181, 1186, 1190, 1195, 1199, 1203, 1207, 1212, 1217, 1221, 1225, 1229, 1423, 1427, 1431, 1434, 1437, 1456, 1459, 1463, 1467, 1471] pMT_4 = true := by decide +kernel
theorem pMT_eq_4 : pMT_4.map (fun mm => mm.2.1) = List.map cbP [1108, 1112, 1116, 1119, 1123, 1127, 1131, 1135, 1139, 1143, 1148, 1152, 1156, 1160, 1164, 1169, 1173, 1177, 1181, 1186, 1190, 1195, 1199, 1203, 1207, 1212, 1217, 1221, 1225, 1229, 1423, 1427, 1431, 1434, 1437, 1456, 1459, 1463, 1467, 1471] := by
  unfold pMT_4
  simp only [List.map_cons, List.map_nil, mt_160, mt_161, mt_162, mt_163, mt_164, mt_165, mt_166, mt_167, mt_168, mt_169, mt_170, mt_171, mt_172, mt_173, mt_174, mt_175, mt_176, mt_177, mt_178, mt_179, mt_180, mt_181, mt_182, mt_183, mt_184, mt_185, mt_186, mt_187, mt_188, mt_189, mt_190, mt_191, mt_192, mt_193, mt_194, mt_195, mt_196, mt_197, mt_198, mt_199]
theorem pMT_ok_5 : ra_b2 cdOk [1475, 1478, 1481, 1485, 1489, 1493, 1497, 1501, 1505, 1509, 1513, 1517, 1521, 1525, 1529, 1533, 1537, 1541, 1545, 1549, 1553, 1557, 1561, 1565, 1569, 1573, 1576, 1580, 1584, 1588, 1592, 1596, 1599, 1603, 1607, 1611, 1615, 1619, 1624, 1628] pMT_5 = true := by decide +kernel
theorem pMT_eq_5 : pMT_5.map (fun mm => mm.2.1) = List.map cbP [1475, 1478, 1481, 1485, 1489, 1493, 1497, 1501, 1505, 1509, 1513, 1517, 1521, 1525, 1529, 1533, 1537, 1541, 1545, 1549, 1553, 1557, 1561, 1565, 1569, 1573, 1576, 1580, 1584, 1588, 1592, 1596, 1599, 1603, 1607, 1611, 1615, 1619, 1624, 1628] := by
  unfold pMT_5
  simp only [List.map_cons, List.map_nil, mt_200, mt_201, mt_202, mt_203, mt_204, mt_205, mt_206, mt_207, mt_208, mt_209, mt_210, mt_211, mt_212, mt_213, mt_214, mt_215, mt_216, mt_217, mt_218, mt_219, mt_220, mt_221, mt_222, mt_223, mt_224, mt_225, mt_226, mt_227, mt_228, mt_229, mt_230, mt_231, mt_232, mt_233, mt_234, mt_235, mt_236, mt_237, mt_238, mt_239]
theorem pMT_ok_6 : ra_b2 cdOk [1632, 1636, 1640, 1644, 1648, 1652, 1656, 1660, 1664, 1668, 1672, 1676, 1680, 1684, 1688, 1692, 1696, 1699, 1703, 1707, 1711, 1715, 1719, 1723, 1727, 1731, 1735, 1739, 1743, 1747, 1751, 1755, 1759, 1763, 1767, 1770, 1774, 1778, 1782, 1786] pMT_6 = true := by decide +kernel
theorem pMT_eq_6 : pMT_6.map (fun mm => mm.2.1) = List.map cbP [1632, 1636, 1640, 1644, 1648, 1652, 1656, 1660, 1664, 1668, 1672, 1676, 1680, 1684, 1688, 1692, 1696, 1699, 1703, 1707, 1711, 1715, 1719, 1723, 1727, 1731, 1735, 1739, 1743, 1747, 1751, 1755, 1759, 1763, 1767, 1770, 1774, 1778, 1782, 1786] := by
  unfold pMT_6
  simp only [List.map_cons, List.map_nil, mt_240, mt_241, mt_242, mt_243, mt_244, mt_245, mt_246, mt_247, mt_248, mt_249, mt_250, mt_251, mt_252, mt_253, mt_254, mt_255, mt_256, mt_257, mt_258, mt_259, mt_260, mt_261, mt_262, mt_263, mt_264, mt_265, mt_266, mt_267, mt_268, mt_269, mt_270, mt_271, mt_272, mt_273, mt_274, mt_275, mt_276, mt_277, mt_278, mt_279]
theorem pMT_ok_7 : ra_b2 cdOk [1790, 1794, 1797, 1801, 1805, 1810, 1814, 1818, 1822, 1826, 1830, 1834, 1838, 1842, 1845, 1849, 1853, 1857, 1862, 1866, 1870, 1874, 1879, 1883, 1887, 1891, 1895, 1899, 1903, 1907] pMT_7 = true := by decide +kernel
theorem pMT_eq_7 : pMT_7.map (fun mm => mm.2.1) = List.map cbP [1790, 1794, 1797, 1801, 1805, 1810, 1814, 1818, 1822, 1826, 1830, 1834, 1838, 1842, 1845, 1849, 1853, 1857, 1862, 1866, 1870, 1874, 1879, 1883, 1887, 1891, 1895, 1899, 1903, 1907] := by
  unfold pMT_7
  simp only [List.map_cons, List.map_nil, mt_280, mt_281, mt_282, mt_283, mt_284, mt_285, mt_286, mt_287, mt_288, mt_289, mt_290, mt_291, mt_292, mt_293, mt_294, mt_295, mt_296, mt_297, mt_298, mt_299, mt_300, mt_301, mt_302, mt_303, mt_304, mt_305, mt_306, mt_307, mt_308, mt_309]
theorem cds_in {ps : List Nat} {ms : List ra_M} (h : ra_b2 cdOk ps ms = true) (he : ms.map (fun mm => mm.2.1) = ps.map cbP) : ∀ mm ∈ ms, Cond.code mm.1 mm.2.1 mm.2.2.1 mm.2.2.2.1 ∈ pT := by
  intro mm hm
  obtain ⟨i, hi⟩ := List.getElem?_of_mem hm
  obtain ⟨p, h1, h2⟩ := ra_b2_get h hi
  refine cd_in (p := p) ?_ h2
  have : (ms.map (fun mm => mm.2.1))[i]? = (ps.map cbP)[i]? := by rw [he]
  rw [List.getElem?_map, List.getElem?_map, hi, h1] at this
  simpa using this
theorem pMT_in : ∀ mm ∈ pMT, Cond.code mm.1 mm.2.1 mm.2.2.1 mm.2.2.2.1 ∈ pT := by
  unfold pMT
  exact List.forall_mem_append.mpr ⟨cds_in pMT_ok_0 pMT_eq_0, List.forall_mem_append.mpr ⟨cds_in pMT_ok_1 pMT_eq_1, List.forall_mem_append.mpr ⟨cds_in pMT_ok_2 pMT_eq_2, List.forall_mem_append.mpr ⟨cds_in pMT_ok_3 pMT_eq_3, List.forall_mem_append.mpr ⟨cds_in pMT_ok_4 pMT_eq_4, List.forall_mem_append.mpr ⟨cds_in pMT_ok_5 pMT_eq_5, List.forall_mem_append.mpr ⟨cds_in pMT_ok_6 pMT_eq_6, cds_in pMT_ok_7 pMT_eq_7⟩⟩⟩⟩⟩⟩⟩
theorem cOkX0 : (∀ w ∈ u_ws RX0 TX0 4, w ∈ pT) ∧ (∀ k, k < 4 → parseFieldDescriptor (TX0 k).2.2.1 = some (tyX0 k)) ∧ ∀ a, a < 4 → ∀ b, b < 4 → a ≠ b → (TX0 a).2.1 ≠ (TX0 b).2.1 := ⟨tb_all (ps := [363, 365, 367, 369]) (by decide +kernel), by decide +kernel, by decide +kernel⟩
theorem cOkX1 : (∀ w ∈ u_ws RX1 TX1 9, w ∈ pT) ∧ (∀ k, k < 9 → parseFieldDescriptor (TX1 k).2.2.1 = some (tyX1 k)) ∧ ∀ a, a < 9 → ∀ b, b < 9 → a ≠ b → (TX1 a).2.1 ≠ (TX1 b).2.1 := ⟨tb_all (ps := [396, 398, 400, 402, 404, 406, 408, 410, 412]) (by decide +kernel), by decide +kernel, by decide +kernel⟩
theorem cOkX2 : (∀ w ∈ u_ws RX2 TX2 10, w ∈ pT) ∧ (∀ k, k < 10 → parseFieldDescriptor (TX2 k).2.2.1 = some (tyX2 k)) ∧ ∀ a, a < 10 → ∀ b, b < 10 → a ≠ b → (TX2 a).2.1 ≠ (TX2 b).2.1 := ⟨tb_all (ps := [433, 435, 437, 439, 441, 443, 445, 447, 449, 451]) (by decide +kernel), by decide +kernel, by decide +kernel⟩
theorem cOkX3 : (∀ w ∈ u_ws RX3 TX3 6, w ∈ pT) ∧ (∀ k, k < 6 → parseFieldDescriptor (TX3 k).2.2.1 = some (tyX3 k)) ∧ ∀ a, a < 6 → ∀ b, b < 6 → a ≠ b → (TX3 a).2.1 ≠ (TX3 b).2.1 := ⟨tb_all (ps := [242, 244, 246, 248, 250, 252]) (by decide +kernel), by decide +kernel, by decide +kernel⟩
theorem cOkX4 : (∀ w ∈ u_ws RX4 TX4 8, w ∈ pT) ∧ (∀ k, k < 8 → parseFieldDescriptor (TX4 k).2.2.1 = some (tyX4 k)) ∧ ∀ a, a < 8 → ∀ b, b < 8 → a ≠ b → (TX4 a).2.1 ≠ (TX4 b).2.1 := ⟨tb_all (ps := [294, 296, 298, 300, 302, 304, 306, 308]) (by decide +kernel), by decide +kernel, by decide +kernel⟩
theorem cOkX5 : (∀ w ∈ u_ws RX5 TX5 10, w ∈ pT) ∧ (∀ k, k < 10 → parseFieldDescriptor (TX5 k).2.2.1 = some (tyX5 k)) ∧ ∀ a, a < 10 → ∀ b, b < 10 → a ≠ b → (TX5 a).2.1 ≠ (TX5 b).2.1 := ⟨tb_all (ps := [323, 325, 327, 329, 331, 333, 335, 337, 339, 341]) (by decide +kernel), by decide +kernel, by decide +kernel⟩
theorem cOkX6 : (∀ w ∈ u_ws RX6 TX6 6, w ∈ pT) ∧ (∀ k, k < 6 → parseFieldDescriptor (TX6 k).2.2.1 = some (tyX6 k)) ∧ ∀ a, a < 6 → ∀ b, b < 6 → a ≠ b → (TX6 a).2.1 ≠ (TX6 b).2.1 := ⟨tb_all (ps := [214, 216, 218, 220, 222, 224]) (by decide +kernel), by decide +kernel, by decide +kernel⟩
theorem cOkX7 : (∀ w ∈ u_ws RX7 TX7 4, w ∈ pT) ∧ (∀ k, k < 4 → parseFieldDescriptor (TX7 k).2.2.1 = some (tyX7 k)) ∧ ∀ a, a < 4 → ∀ b, b < 4 → a ≠ b → (TX7 a).2.1 ≠ (TX7 b).2.1 := ⟨tb_all (ps := [162, 164, 166, 168]) (by decide +kernel), by decide +kernel, by decide +kernel⟩
theorem cOkX8 : (∀ w ∈ u_ws RX8 TX8 17, w ∈ pT) ∧ (∀ k, k < 17 → parseFieldDescriptor (TX8 k).2.2.1 = some (tyX8 k)) ∧ ∀ a, a < 17 → ∀ b, b < 17 → a ≠ b → (TX8 a).2.1 ≠ (TX8 b).2.1 := ⟨tb_all (ps := [472, 474, 476, 478, 480, 482, 484, 486, 488, 490, 492, 494, 496, 498, 500, 502, 504]) (by decide +kernel), by decide +kernel, by decide +kernel⟩
theorem cOkX9 : (∀ w ∈ u_ws RX9 TX9 63, w ∈ pT) ∧ (∀ k, k < 63 → parseFieldDescriptor (TX9 k).2.2.1 = some (tyX9 k)) ∧ ∀ a, a < 63 → ∀ b, b < 63 → a ≠ b → (TX9 a).2.1 ≠ (TX9 b).2.1 := ⟨tb_all (ps := [1293, 1295, 1297, 1299, 1301, 1303, 1305, 1307, 1309, 1311, 1313, 1315, 1317, 1319, 1321, 1323, 1325, 1327, 1329, 1331, 1333, 1335, 1337, 1339, 1341, 1343, 1345, 1347, 1349, 1351, 1353, 1355, 1357, 1359, 1361, 1363, 1365, 1367, 1369, 1371, 1373, 1375, 1377, 1379, 1381, 1383, 1385, 1387, 1389, 1391, 1393, 1395, 1397, 1399, 1401, 1403, 1405, 1407, 1409, 1411, 1413, 1415, 1417]) (by decide +kernel), by decide +kernel, by decide +kernel⟩
theorem pOkC : ra_okC pT vwCl tyv := by
  intro ci r hr
  match ci, hr with
  | 0, hr => cases hr; exact cOkX0
  | 1, hr => cases hr; exact cOkX1
  | 2, hr => cases hr; exact cOkX2
  | 3, hr => cases hr; exact cOkX3
  | 4, hr => cases hr; exact cOkX4
  | 5, hr => cases hr; exact cOkX5
  | 6, hr => cases hr; exact cOkX6
  | 7, hr => cases hr; exact cOkX7
  | 8, hr => cases hr; exact cOkX8
  | 9, hr => cases hr; exact cOkX9
  | k + 10, hr => simp [vwCl] at hr
theorem pOkA : ra_okA pT := ⟨tb_in (i := 171) (by decide +kernel), tb_in (i := 758) (by decide +kernel), tb_in (i := 454) (by decide +kernel), tb_in (i := 172) (by decide +kernel)⟩
