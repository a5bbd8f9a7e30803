/-! THE TABLES' WORDS, by their places in lw_tbl: printed by wip/gen/words.py -/
/-- the words that every method here is given -/
def jv_T : List Cond := lw_tbl.filter goodWord
/-- words alike: a method's bytes are compared as a list (in an array each place costs its number) -/
theorem jv_bytes {a b : ByteArray} (h : a.data.toList = b.data.toList) : a = b := by
  cases a
  cases b
  exact congrArg ByteArray.mk (Array.toList_inj.mp h)
def jv_eqw (u w : Cond) : Bool := match u with
  | .code n b m r => (match w with
    | .code n' b' m' r' => decide (n = n') && (decide (b.data.toList = b'.data.toList) && (decide (m = m') && decide (r = r')))
    | _ => false)
  | _ => decide (u = w)
theorem jv_eqw_ok {u w : Cond} (h : jv_eqw u w = true) : u = w := by
  unfold jv_eqw at h
  split at h
  · split at h
    · simp only [Bool.and_eq_true, decide_eq_true_eq] at h
      obtain ⟨h1, h2, h3, h4⟩ := h
      have h2 := jv_bytes h2
      subst h1 h2 h3 h4
      rfl
    · cases h
  · exact of_decide_eq_true h
def jv_inw (i : Nat) (w : Cond) : Bool := match lw_tbl[i]? with
  | some u => jv_eqw u w
  | none => false
theorem jv_inw_ok {i : Nat} {w : Cond} (h : jv_inw i w = true) : lw_tbl[i]? = some w := by
  unfold jv_inw at h
  split at h
  · rename_i u e
    rw [e, jv_eqw_ok h]
  · cases h
def jv_in (i : Nat) (w : Cond) : Bool := jv_inw i w && goodWord w
theorem jv_in_ok {i : Nat} {w : Cond} (h : jv_in i w = true) : w ∈ jv_T := by
  simp only [jv_in, Bool.and_eq_true] at h
  exact List.mem_filter.mpr ⟨List.mem_of_getElem? (jv_inw_ok h.1), h.2⟩
theorem jv_as_mem {α : Type} {n : Nat} {v : α} : ∀ (l : List (Nat × α)), jv_as l n = some v → (n, v) ∈ l
  | [], h => by cases h
  | a :: l, h => by
    unfold jv_as at h
    split at h
    · rename_i e
      cases h
      rw [← e]
      exact List.mem_cons_self
    · exact List.mem_cons_of_mem _ (jv_as_mem l h)
def jv_byt : List (List Int32) := [[116, 114, 97, 105, 110], [102, 105, 114, 115, 116], [115, 101, 97, 116], [116, 105, 99, 107, 101, 116], [102, 97, 109, 105, 108, 121], [119, 105, 110, 100, 111, 119], [97, 104, 101, 97, 100], [114, 111, 119], [115, 119, 101, 101, 116, 115], [115, 116, 111, 112], [116, 114, 97, 105, 110, 32], [32, 102, 105, 114, 115, 116, 32], [115, 101, 97, 116, 32], [32, 116, 105, 99, 107, 101, 116], [32, 102, 97, 109, 105, 108, 121, 32], [32, 119, 105, 110, 100, 111, 119, 32], [32, 97, 104, 101, 97, 100, 32], [32, 114, 111, 119, 32], [32, 115, 119, 101, 101, 116, 115, 32], [32, 115, 116, 111, 112, 32]]
def jv_lens : List Nat := [5, 5, 4, 6, 6, 6, 5, 3, 6, 4, 6, 7, 5, 7, 8, 8, 7, 5, 8, 6]
/-- which text lies at a place: 1000001 + its number -/
def jv_tix (a : Nat) : Option Nat := (List.range 20).find? (fun i => Nat.beq a (1000001 + i))
theorem jv_tix_eq {a i : Nat} (h : jv_tix a = some i) : i < 20 ∧ a = 1000001 + i := by
  unfold jv_tix at h
  exact ⟨List.mem_range.mp (List.mem_of_find?_eq_some h), Nat.eq_of_beq_eq_true (List.find?_some (p := fun i => Nat.beq a (1000001 + i)) h)⟩
def jv_hm0 : List (List Nat) := [[250, 249, 0, 85], [410, 408, 409, 85], [583, 581, 582, 85], [634, 633, 19, 85], [639, 638, 20, 85], [630, 628, 629, 85], [969, 967, 968, 85], [325, 324, 0, 86], [587, 585, 586, 86], [616, 615, 18, 86], [612, 610, 611, 86], [808, 806, 807, 86], [105, 104, 0, 80], [425, 424, 0, 80], [414, 413, 1, 80], [418, 417, 2, 80]]
def jv_hm1 : List (List Nat) := [[499, 498, 8, 80], [434, 433, 4, 80], [544, 543, 14, 80], [540, 539, 13, 80], [536, 535, 12, 80], [494, 493, 7, 80], [486, 485, 5, 80], [430, 429, 3, 80], [555, 554, 15, 80], [490, 489, 6, 80], [559, 558, 16, 80], [512, 511, 10, 80], [532, 531, 11, 80], [606, 604, 605, 80], [625, 623, 624, 80], [402, 400, 401, 80]]
def jv_hm2 : List (List Nat) := [[503, 502, 9, 80], [223, 222, 0, 83], [1003, 1001, 1002, 83], [1025, 1024, 33, 83], [1033, 1032, 34, 83], [1038, 1037, 35, 83], [1018, 1017, 32, 83], [1008, 1007, 30, 83], [1014, 1013, 31, 83], [111, 110, 0, 81], [379, 377, 378, 81], [383, 381, 382, 81], [387, 386, 0, 81], [422, 420, 421, 81], [241, 240, 0, 84], [406, 404, 405, 84]]
def jv_hm3 : List (List Nat) := [[579, 577, 578, 84], [524, 522, 523, 84], [528, 526, 527, 84], [825, 823, 824, 84], [600, 598, 599, 84], [647, 645, 646, 84], [651, 649, 650, 84], [520, 518, 519, 84], [516, 514, 515, 84], [563, 561, 562, 84], [684, 682, 683, 84], [668, 666, 667, 84], [701, 700, 22, 84], [575, 574, 17, 84], [567, 565, 566, 84], [792, 791, 27, 84]]
def jv_hm4 : List (List Nat) := [[788, 786, 787, 84], [693, 691, 692, 84], [689, 687, 688, 84], [697, 695, 696, 84], [707, 706, 0, 84], [778, 776, 777, 84], [817, 815, 816, 84], [842, 840, 841, 84], [900, 898, 899, 84], [867, 866, 28, 84], [863, 861, 862, 84], [871, 869, 870, 84], [875, 873, 874, 84], [879, 877, 878, 84], [833, 831, 832, 84], [888, 886, 887, 84]]
def jv_hm5 : List (List Nat) := [[892, 890, 891, 84], [829, 827, 828, 84], [821, 819, 820, 84], [715, 714, 24, 84], [711, 710, 23, 84], [754, 753, 25, 84], [722, 720, 721, 84], [921, 919, 920, 84], [680, 678, 679, 84], [726, 724, 725, 84], [735, 733, 734, 84], [742, 740, 741, 84], [750, 748, 749, 84], [758, 756, 757, 84], [762, 760, 761, 84], [951, 949, 950, 84]]
def jv_hm6 : List (List Nat) := [[933, 931, 932, 84], [942, 940, 941, 84], [774, 772, 773, 84], [990, 988, 989, 84], [994, 993, 29, 84], [127, 126, 0, 82], [507, 505, 506, 82], [571, 569, 570, 82], [656, 654, 655, 82], [660, 658, 659, 82], [850, 848, 849, 82], [97, 96, 0, 79], [375, 373, 374, 79], [391, 389, 390, 79], [398, 396, 397, 79], [592, 590, 591, 79]]
def jv_hm7 : List (List Nat) := [[596, 594, 595, 79], [643, 641, 642, 79], [664, 662, 663, 79], [672, 670, 671, 79], [731, 729, 730, 79], [746, 744, 745, 79], [766, 764, 765, 79], [784, 782, 783, 79], [796, 794, 795, 79], [800, 798, 799, 79], [804, 802, 803, 79], [812, 810, 811, 79], [837, 835, 836, 79], [846, 844, 845, 79], [854, 852, 853, 79], [859, 857, 858, 79]]
def jv_hm8 : List (List Nat) := [[883, 881, 882, 79], [896, 894, 895, 79], [905, 903, 904, 79], [909, 907, 908, 79], [913, 911, 912, 79], [917, 915, 916, 79], [925, 923, 924, 79], [929, 927, 928, 79], [938, 936, 937, 79], [947, 945, 946, 79], [957, 955, 956, 79], [961, 959, 960, 79], [965, 963, 964, 79], [973, 971, 972, 79], [977, 975, 976, 79], [981, 979, 980, 79]]
def jv_hm9 : List (List Nat) := [[985, 983, 984, 79], [999, 997, 998, 79], [1047, 1045, 1046, 79], [394, 393, 0, 79], [718, 717, 0, 79], [676, 675, 21, 79], [770, 769, 26, 79], [1052, 1051, 0, 87], [1159, 1158, 0, 87], [1209, 1208, 0, 87], [1323, 1322, 54, 87], [1171, 1170, 0, 87], [1237, 1236, 51, 87], [1221, 1220, 48, 87], [1259, 1258, 53, 87], [1262, 1261, 0, 87]]
def jv_hm10 : List (List Nat) := [[1206, 1205, 0, 87], [1277, 1276, 0, 87], [1283, 1282, 0, 87], [1286, 1285, 0, 87], [1373, 1372, 0, 87], [1168, 1167, 0, 87], [1203, 1202, 0, 87], [1200, 1199, 0, 87], [1280, 1279, 0, 87], [1274, 1273, 0, 87], [1271, 1270, 0, 87], [1326, 1325, 0, 87], [1366, 1365, 0, 87], [1289, 1288, 0, 87], [1312, 1311, 0, 87], [1268, 1267, 0, 87]]
def jv_hm11 : List (List Nat) := [[1265, 1264, 0, 87], [1299, 1298, 0, 87], [1309, 1308, 0, 87], [1306, 1305, 0, 87], [1315, 1314, 0, 87], [1335, 1334, 0, 87], [1332, 1331, 0, 87], [1329, 1328, 0, 87], [1111, 1109, 1110, 87], [1115, 1113, 1114, 87], [1119, 1117, 1118, 87], [1131, 1130, 37, 87], [1139, 1138, 39, 87], [1127, 1126, 36, 87], [1135, 1134, 38, 87], [1143, 1142, 40, 87]]
def jv_hm12 : List (List Nat) := [[1148, 1147, 41, 87], [1180, 1179, 0, 87], [1152, 1151, 42, 87], [1156, 1155, 43, 87], [1188, 1187, 45, 87], [1194, 1193, 46, 87], [1174, 1173, 0, 87], [1177, 1176, 0, 87], [1396, 1395, 0, 87], [1183, 1182, 0, 87], [1165, 1164, 44, 87], [1123, 1121, 1122, 87], [1229, 1228, 50, 87], [1225, 1224, 49, 87], [1292, 1291, 0, 87], [1217, 1216, 47, 87]]
def jv_hm13 : List (List Nat) := [[1213, 1211, 1212, 87], [1244, 1243, 0, 87], [1241, 1240, 52, 87], [1233, 1231, 1232, 87], [1251, 1250, 0, 87], [1248, 1246, 1247, 87], [1255, 1253, 1254, 87], [1296, 1294, 1295, 87], [1303, 1301, 1302, 87], [1319, 1317, 1318, 87], [1347, 1346, 56, 87], [1343, 1342, 55, 87], [1339, 1337, 1338, 87], [1351, 1349, 1350, 87], [1355, 1353, 1354, 87], [1359, 1357, 1358, 87]]
def jv_hm14 : List (List Nat) := [[1370, 1369, 57, 87], [1381, 1380, 59, 87], [1377, 1376, 58, 87], [1363, 1361, 1362, 87], [1389, 1388, 60, 87], [1385, 1383, 1384, 87], [1393, 1391, 1392, 87], [1400, 1398, 1399, 87], [1408, 1407, 61, 87], [1416, 1415, 63, 87], [1412, 1411, 62, 87], [1404, 1402, 1403, 87], [1424, 1423, 64, 87], [1428, 1427, 65, 87], [1420, 1418, 1419, 87], [1432, 1430, 1431, 87]]
def jv_hm15 : List (List Nat) := [[1436, 1434, 1435, 87], [1440, 1438, 1439, 87], [1444, 1442, 1443, 87], [1448, 1446, 1447, 87], [1452, 1450, 1451, 87], [1456, 1454, 1455, 87], [1460, 1458, 1459, 87], [1464, 1462, 1463, 87], [1468, 1466, 1467, 87], [1472, 1470, 1471, 87], [1476, 1474, 1475, 87], [1480, 1478, 1479, 87], [1484, 1482, 1483, 87], [1496, 1495, 67, 87], [1508, 1507, 69, 87], [1492, 1491, 66, 87]]
def jv_hm16 : List (List Nat) := [[1500, 1499, 68, 87], [1488, 1486, 1487, 87], [1504, 1502, 1503, 87], [1528, 1527, 73, 87], [1524, 1523, 72, 87], [1520, 1519, 71, 87], [1536, 1535, 75, 87], [1540, 1539, 76, 87], [1532, 1531, 74, 87], [1544, 1543, 77, 87], [1516, 1515, 70, 87], [1512, 1510, 1511, 87], [1548, 1546, 1547, 87], [619, 618, 0, 92], [704, 703, 0, 92]]
def jv_hms : List (List (List Nat)) := [jv_hm0, jv_hm1, jv_hm2, jv_hm3, jv_hm4, jv_hm5, jv_hm6, jv_hm7, jv_hm8, jv_hm9, jv_hm10, jv_hm11, jv_hm12, jv_hm13, jv_hm14, jv_hm15, jv_hm16]
def jv_hm (y : Nat) : Option (List Nat) := match jv_nth jv_hms (y / 16) with
  | none => none
  | some a => jv_nth a (y % 16)
def jv_ckm (y : Nat) : Bool := match jv_inf y, jv_hm y with
  | some (ow, kd, na, mL, _, _), some [a, b, c, d] =>
    jv_in a (.code (jv_ym y).1 (jv_ym y).2.1 mL (jv_ym y).2.2) && jv_in d (.initialized (jv_ym y).1.cls) && plainFor (jv_ym y).1 &&
    decide ((jv_ym y).1.cls = jv_own ow ∧ ((jv_ym y).1.cls ≠ "java/lang/invoke/MethodHandle" ∧ (jv_ym y).1.cls ≠ "java/lang/invoke/VarHandle" ∧ (parseMethodDescriptor (jv_ym y).1.desc).map (fun d => d.parameters.length) = some (if kd = 0 then na else na - 1)) ∧ na ≤ mL ∧ (kd ≠ 0 → 1 ≤ na)) &&
    (match kd with
     | 0 => jv_in b (.static (jv_ym y).1)
     | 1 => jv_in b (.instanceMethod (jv_ym y).1) && jv_in c (.selects (jv_ym y).1.cls (jv_ym y).1 (jv_ym y).1)
     | _ => jv_in b (.instanceMethod (jv_ym y).1) && decide ((jv_ym y).1.name = "<init>" ∧ (jv_ym y).2.2 = none ∧ kd = 2))
  | _, _ => false
theorem jv_mg0 : ∀ k, k < 16 → jv_ckm (0 + k) = true := by decide +kernel
theorem jv_mg1 : ∀ k, k < 16 → jv_ckm (16 + k) = true := by decide +kernel
theorem jv_mg2 : ∀ k, k < 16 → jv_ckm (32 + k) = true := by decide +kernel
theorem jv_mg3 : ∀ k, k < 16 → jv_ckm (48 + k) = true := by decide +kernel
theorem jv_mg4 : ∀ k, k < 16 → jv_ckm (64 + k) = true := by decide +kernel
theorem jv_mg5 : ∀ k, k < 16 → jv_ckm (80 + k) = true := by decide +kernel
theorem jv_mg6 : ∀ k, k < 16 → jv_ckm (96 + k) = true := by decide +kernel
theorem jv_mg7 : ∀ k, k < 16 → jv_ckm (112 + k) = true := by decide +kernel
theorem jv_mg8 : ∀ k, k < 16 → jv_ckm (128 + k) = true := by decide +kernel
theorem jv_mg9 : ∀ k, k < 16 → jv_ckm (144 + k) = true := by decide +kernel
theorem jv_mg10 : ∀ k, k < 16 → jv_ckm (160 + k) = true := by decide +kernel
theorem jv_mg11 : ∀ k, k < 16 → jv_ckm (176 + k) = true := by decide +kernel
theorem jv_mg12 : ∀ k, k < 16 → jv_ckm (192 + k) = true := by decide +kernel
theorem jv_mg13 : ∀ k, k < 16 → jv_ckm (208 + k) = true := by decide +kernel
theorem jv_mg14 : ∀ k, k < 16 → jv_ckm (224 + k) = true := by decide +kernel
theorem jv_mg15 : ∀ k, k < 16 → jv_ckm (240 + k) = true := by decide +kernel
theorem jv_mg16 : ∀ k, k < 15 → jv_ckm (256 + k) = true := by decide +kernel
theorem jv_ckm_ok (y : Nat) (h : y < 271) : jv_ckm y = true := by
  by_cases h0 : y < 16
  · have := jv_mg0 (y - 0) (by omega); rwa [show 0 + (y - 0) = y by omega] at this
  by_cases h1 : y < 32
  · have := jv_mg1 (y - 16) (by omega); rwa [show 16 + (y - 16) = y by omega] at this
  by_cases h2 : y < 48
  · have := jv_mg2 (y - 32) (by omega); rwa [show 32 + (y - 32) = y by omega] at this
  by_cases h3 : y < 64
  · have := jv_mg3 (y - 48) (by omega); rwa [show 48 + (y - 48) = y by omega] at this
  by_cases h4 : y < 80
  · have := jv_mg4 (y - 64) (by omega); rwa [show 64 + (y - 64) = y by omega] at this
  by_cases h5 : y < 96
  · have := jv_mg5 (y - 80) (by omega); rwa [show 80 + (y - 80) = y by omega] at this
  by_cases h6 : y < 112
  · have := jv_mg6 (y - 96) (by omega); rwa [show 96 + (y - 96) = y by omega] at this
  by_cases h7 : y < 128
  · have := jv_mg7 (y - 112) (by omega); rwa [show 112 + (y - 112) = y by omega] at this
  by_cases h8 : y < 144
  · have := jv_mg8 (y - 128) (by omega); rwa [show 128 + (y - 128) = y by omega] at this
  by_cases h9 : y < 160
  · have := jv_mg9 (y - 144) (by omega); rwa [show 144 + (y - 144) = y by omega] at this
  by_cases h10 : y < 176
  · have := jv_mg10 (y - 160) (by omega); rwa [show 160 + (y - 160) = y by omega] at this
  by_cases h11 : y < 192
  · have := jv_mg11 (y - 176) (by omega); rwa [show 176 + (y - 176) = y by omega] at this
  by_cases h12 : y < 208
  · have := jv_mg12 (y - 192) (by omega); rwa [show 192 + (y - 192) = y by omega] at this
  by_cases h13 : y < 224
  · have := jv_mg13 (y - 208) (by omega); rwa [show 208 + (y - 208) = y by omega] at this
  by_cases h14 : y < 240
  · have := jv_mg14 (y - 224) (by omega); rwa [show 224 + (y - 224) = y by omega] at this
  by_cases h15 : y < 256
  · have := jv_mg15 (y - 240) (by omega); rwa [show 240 + (y - 240) = y by omega] at this
  by_cases h16 : y < 271
  · have := jv_mg16 (y - 256) (by omega); rwa [show 256 + (y - 256) = y by omega] at this
  omega
def jv_hfs : List (List (Nat × Nat)) := [[(11, 252), (15, 253), (19, 254)],
  [(11, 329), (16, 331), (20, 330)],
  [(12, 198), (21, 200), (25, 205), (29, 203), (36, 201), (39, 116), (49, 204), (129, 271), (132, 275), (143, 136), (148, 131), (154, 141), (156, 146), (161, 151), (163, 156), (165, 161), (167, 166), (170, 170), (172, 176)],
  [(9, 225), (15, 227), (18, 228), (27, 269), (38, 273), (44, 279), (57, 133), (66, 138), (73, 143), (82, 148), (91, 153), (94, 158), (97, 163), (104, 168), (109, 173)],
  [(9, 113), (13, 114)],
  [(11, 263), (18, 264), (22, 265), (29, 266), (33, 268), (37, 272), (43, 276), (46, 278), (49, 281), (52, 283), (55, 285), (58, 287), (61, 289), (83, 135), (90, 140), (97, 145), (108, 175), (119, 165), (122, 160), (130, 150), (137, 155), (159, 171)],
  [(9, 129), (15, 132), (18, 137), (21, 142), (24, 147), (27, 152), (30, 157), (33, 162), (36, 167), (39, 172)],
  [(10, 342), (16, 199), (20, 341), (24, 343), (31, 344), (35, 345), (41, 346), (45, 347), (49, 348), (56, 349), (60, 350), (74, 115), (85, 202), (95, 280), (122, 130), (125, 134), (128, 139), (131, 144), (134, 169), (137, 174), (144, 267), (172, 270), (175, 274), (225, 282), (228, 277), (234, 332), (247, 284), (250, 286), (253, 288), (256, 290), (265, 255), (268, 149), (271, 154), (274, 159), (277, 164), (342, 226), (343, 229)],
  [(7, 1054), (13, 1055), (16, 1056), (19, 1057), (22, 1058), (25, 1059), (29, 1061), (32, 1063), (36, 1069), (121, 1062), (124, 1064), (127, 1065), (130, 1067), (133, 1066), (148, 1068), (196, 1060), (289, 1070)],
  [],
  []]
def jv_hf (ow i : Nat) : Nat := ((jv_nth jv_hfs ow).bind (fun a => jv_as a i)).getD 0
def jv_hcs : List (List (Nat × Nat)) := [[(3, 251), (22, 635), (28, 631), (31, 636)],
  [(1, 326), (15, 328), (23, 617), (29, 613), (33, 620)],
  [(3, 106), (11, 109), (20, 125), (33, 415), (42, 419), (46, 423), (52, 435), (57, 445), (63, 431), (85, 541), (89, 483), (93, 491), (96, 496), (100, 487), (104, 513), (110, 525), (113, 533), (116, 537), (119, 411), (122, 403), (125, 427), (134, 500), (138, 504), (139, 509), (145, 529), (151, 552), (158, 556), (174, 560), (178, 564)],
  [(3, 224), (23, 1005), (32, 1015), (41, 1011), (47, 1021), (51, 1022), (62, 1027), (76, 1030), (85, 1035), (112, 1039), (118, 1009), (123, 1010)],
  [(1, 112), (17, 384)],
  [(3, 242), (17, 245), (28, 248), (40, 407), (64, 521), (68, 568), (72, 580), (75, 601), (79, 602), (86, 517), (93, 685), (100, 572), (104, 727), (111, 789), (115, 694), (125, 702), (133, 705), (140, 690), (144, 698), (147, 686), (150, 901), (153, 864), (156, 830), (162, 712), (166, 708), (169, 775), (172, 681), (175, 736), (178, 751), (181, 952), (185, 953), (188, 934), (191, 779), (194, 943), (197, 991), (200, 995)],
  [(3, 128)],
  [(1, 98), (9, 103), (23, 221), (30, 239), (40, 319), (55, 323), (64, 376), (70, 380), (77, 392), (81, 399), (88, 576), (92, 584), (98, 597), (102, 603), (105, 607), (108, 608), (112, 609), (115, 621), (118, 622), (140, 626), (150, 627), (154, 644), (157, 648), (160, 652), (164, 653), (168, 657), (178, 665), (181, 673), (184, 677), (188, 716), (191, 719), (195, 723), (198, 732), (201, 737), (204, 738), (207, 739), (210, 747), (213, 755), (216, 759), (219, 767), (222, 780), (231, 785), (235, 805), (238, 813), (241, 814), (244, 818), (259, 822), (262, 826), (280, 838), (284, 839), (287, 847), (290, 855), (293, 860), (296, 868), (299, 872), (302, 876), (305, 884), (308, 885), (311, 889), (314, 897), (317, 918), (320, 930), (323, 939), (326, 948), (329, 966), (332, 986), (335, 987), (338, 1000), (346, 771)],
  [(1, 1053), (42, 1207), (46, 1157), (50, 1234), (54, 1169), (58, 1204), (62, 1201), (65, 1275), (68, 1278), (72, 1281), (75, 1284), (78, 1272), (81, 1269), (85, 1287), (89, 1198), (93, 1266), (97, 1166), (100, 1310), (104, 1307), (108, 1324), (112, 1263), (115, 1333), (118, 1330), (136, 1128), (139, 1132), (142, 1136), (145, 1140), (152, 1124), (155, 1149), (159, 1145), (162, 1153), (165, 1175), (168, 1178), (171, 1172), (174, 1181), (178, 1185), (183, 1191), (193, 1162), (199, 1214), (202, 1218), (205, 1222), (208, 1226), (212, 1238), (216, 1242), (219, 1249), (222, 1256), (225, 1260), (228, 1290), (231, 1297), (234, 1304), (237, 1313), (240, 1320), (243, 1327), (246, 1344), (250, 1340), (253, 1378), (256, 1364), (259, 1367), (262, 1371), (265, 1374), (268, 1386), (271, 1394), (274, 1405), (277, 1413), (280, 1409), (283, 1421), (286, 1425), (292, 1493), (295, 1497), (298, 1489), (301, 1505), (304, 1525), (307, 1517), (310, 1521), (313, 1533), (317, 1537), (320, 1541), (323, 1529), (326, 1513)],
  [],
  [(9, 95), (12, 1050), (13, 372), (17, 1108), (18, 388), (22, 1112), (23, 395), (27, 1120), (28, 589), (31, 1116), (32, 593), (35, 1210), (36, 640), (40, 1230), (41, 661), (44, 1245), (45, 669), (48, 1252), (49, 728), (53, 1293), (54, 743), (57, 1300), (58, 763), (61, 1316), (62, 781), (65, 1336), (66, 793), (69, 1348), (70, 797), (73, 1352), (74, 801), (77, 1356), (78, 809), (81, 1360), (82, 834), (85, 1382), (86, 843), (89, 1390), (90, 851), (93, 1397), (94, 856), (97, 1401), (98, 880), (101, 1417), (102, 893), (105, 1429), (106, 902), (109, 1433), (110, 906), (113, 1437), (114, 910), (117, 1441), (118, 914), (121, 1445), (122, 922), (125, 1449), (126, 926), (129, 1453), (130, 935), (133, 1457), (134, 944), (137, 1461), (138, 954), (141, 1465), (142, 958), (145, 1469), (146, 962), (149, 1473), (150, 970), (154, 1477), (155, 974), (159, 1481), (160, 978), (163, 1485), (164, 982), (167, 1501), (168, 996), (171, 1509), (172, 1044), (175, 1545)]]
def jv_hc (ow i : Nat) : Nat := ((jv_nth jv_hcs ow).bind (fun a => jv_as a i)).getD 0
def jv_hns : List (List (Nat × Nat)) := [[],
  [(9, 327)],
  [(9, 107), (18, 123)],
  [],
  [],
  [(9, 243), (26, 246)],
  [],
  [(7, 101), (21, 219), (28, 237), (38, 318), (53, 321)],
  [],
  [],
  [(7, 93), (10, 1048)]]
def jv_hn (ow i : Nat) : Nat := ((jv_nth jv_hns ow).bind (fun a => jv_as a i)).getD 0
def jv_hls : List (List (Nat × Nat)) := [[],
  [],
  [(61, 426), (67, 495), (69, 508), (71, 545), (73, 546), (75, 547), (77, 548), (79, 549), (81, 550), (83, 551)],
  [(21, 1004), (36, 1020), (55, 1026), (69, 1028), (71, 1029), (80, 1034), (89, 1040), (100, 1041), (102, 1042), (107, 1043), (117, 1019)],
  [],
  [],
  [],
  [],
  [(177, 1184), (181, 1189), (182, 1190), (187, 1195), (188, 1196), (189, 1197), (190, 1144), (191, 1160), (192, 1161)],
  [],
  []]
def jv_hl (ow i : Nat) : Nat := ((jv_nth jv_hls ow).bind (fun a => jv_as a i)).getD 0
/-- the classes -/
theorem jv_cls_ok : ∀ c, c < 9 → vwCl[c]? = some (jv_own c, jv_fT c, jv_fn c) := by
  intro c h
  match c, h with
  | 0, _ => rfl
  | 1, _ => rfl
  | 2, _ => rfl
  | 3, _ => rfl
  | 4, _ => rfl
  | 5, _ => rfl
  | 6, _ => rfl
  | 7, _ => rfl
  | 8, _ => rfl
  | c + 9, h => omega
/-- links to private members of nest mates: no words of the tables, carried beside them -/
def jv_nests : List Cond := [.methodLinkNest (jv_own 2) 20 (jv_ym 101).1 "SeatSwap", .methodLinkNest (jv_own 5) 17 (jv_ym 101).1 "SeatSwap", .methodLinkNest (jv_own 5) 79 (jv_ym 147).1 "SeatSwap", .methodLinkNest (jv_own 7) 23 (jv_ym 33).1 "SeatSwap", .methodLinkNest (jv_own 7) 40 (jv_ym 101).1 "SeatSwap"]
theorem jv_nests_in : ∀ w ∈ jv_nests, w ∈ lw_tbl := by
  intro w hw
  have h : jv_nests = ([125, 245, 602, 221, 319] : List Nat).filterMap (fun i => lw_tbl[i]?) := by decide +kernel
  rw [h] at hw
  obtain ⟨i, -, hi⟩ := List.mem_filterMap.mp hw
  exact List.mem_of_getElem? hi
def jv_ckf1 (ow : Nat) (q : Nat × Nat × Nat) : Bool := decide (q.2.1 < 9 ∧ q.2.2 < jv_fn q.2.1) && jv_in (jv_hf ow q.1) (.fieldLink (jv_own ow) q.1 (jv_fT q.2.1 q.2.2).1 (jv_fT q.2.1 q.2.2).2.1 (jv_fT q.2.1 q.2.2).2.2.1)
def jv_ckc1 (ow : Nat) (q : Nat × Nat × Nat × Nat) : Bool :=
  if q.2.1 = 900 then jv_in (jv_hc ow q.1) (.methodLink (jv_own ow) q.1 Lib.objectInit)
  else if q.2.1 = 901 then jv_in (jv_hc ow q.1) (.methodLink (jv_own ow) q.1 yJ0_length_8abf5)
  else if q.2.1 = 902 then jv_in (jv_hc ow q.1) (.methodLink (jv_own ow) q.1 yJ0_charAt_5068e)
  else match jv_inf q.2.1 with
  | some (_, _, na, _) => decide (na = q.2.2.1 ∧ q.2.1 < 271) && (if q.2.2.2 = 0 then jv_in (jv_hc ow q.1) (.methodLink (jv_own ow) q.1 (jv_ym q.2.1).1) else decide (Cond.methodLinkNest (jv_own ow) q.1 (jv_ym q.2.1).1 "SeatSwap" ∈ jv_nests))
  | none => false
def jv_ckn1 (ow : Nat) (q : Nat × Nat) : Bool := decide (q.2 < 9) && jv_in (jv_hn ow q.1) (.classLink (jv_own ow) q.1 (jv_own q.2))
def jv_ckl1 (ow : Nat) (q : Nat × Value) : Bool := match q.2 with
  | .int v => jv_in (jv_hl ow q.1) (.constant (jv_own ow) q.1 v)
  | .ref a => match jv_tix a with
    | some i => match jv_str[i]? with
      | some (own, idx, _) => decide (own = jv_own ow ∧ idx = q.1)
      | none => false
    | none => false
  | _ => false
theorem jv_kf0 : (jv_fld0).all (jv_ckf1 0) = true := by decide +kernel
theorem jv_kf1 : (jv_fld1).all (jv_ckf1 1) = true := by decide +kernel
theorem jv_kf2 : (jv_fld2).all (jv_ckf1 2) = true := by decide +kernel
theorem jv_kf3 : (jv_fld3).all (jv_ckf1 3) = true := by decide +kernel
theorem jv_kf4 : (jv_fld4).all (jv_ckf1 4) = true := by decide +kernel
theorem jv_kf5 : (jv_fld5).all (jv_ckf1 5) = true := by decide +kernel
theorem jv_kf6 : (jv_fld6).all (jv_ckf1 6) = true := by decide +kernel
theorem jv_kf7 : (jv_fld7).all (jv_ckf1 7) = true := by decide +kernel
theorem jv_kf8 : (jv_fld8).all (jv_ckf1 8) = true := by decide +kernel
theorem jv_kf9 : (jv_fld9).all (jv_ckf1 9) = true := by decide +kernel
theorem jv_kf10 : (jv_fld10).all (jv_ckf1 10) = true := by decide +kernel
theorem jv_ckf_ok {ow i : Nat} {v : Nat × Nat} (h : jv_fld ow i = some v) : jv_ckf1 ow (i, v) = true := by
  unfold jv_fld at h
  split at h
  · cases h
  · rename_i a ha
    have hm := jv_as_mem a h
    match ow, ha with
    | 0, ha => cases ha; exact List.all_eq_true.mp jv_kf0 _ hm
    | 1, ha => cases ha; exact List.all_eq_true.mp jv_kf1 _ hm
    | 2, ha => cases ha; exact List.all_eq_true.mp jv_kf2 _ hm
    | 3, ha => cases ha; exact List.all_eq_true.mp jv_kf3 _ hm
    | 4, ha => cases ha; exact List.all_eq_true.mp jv_kf4 _ hm
    | 5, ha => cases ha; exact List.all_eq_true.mp jv_kf5 _ hm
    | 6, ha => cases ha; exact List.all_eq_true.mp jv_kf6 _ hm
    | 7, ha => cases ha; exact List.all_eq_true.mp jv_kf7 _ hm
    | 8, ha => cases ha; exact List.all_eq_true.mp jv_kf8 _ hm
    | 9, ha => cases ha; exact List.all_eq_true.mp jv_kf9 _ hm
    | 10, ha => cases ha; exact List.all_eq_true.mp jv_kf10 _ hm
    | ow + 11, ha => rw [show jv_nth jv_flds (ow + 11) = jv_nth ([] : List (List (Nat × Nat × Nat))) ow from rfl, jv_nil] at ha; cases ha
theorem jv_kc0 : (jv_cal0).all (jv_ckc1 0) = true := by decide +kernel
theorem jv_kc1 : (jv_cal1).all (jv_ckc1 1) = true := by decide +kernel
theorem jv_kc2 : (jv_cal2).all (jv_ckc1 2) = true := by decide +kernel
theorem jv_kc3 : (jv_cal3).all (jv_ckc1 3) = true := by decide +kernel
theorem jv_kc4 : (jv_cal4).all (jv_ckc1 4) = true := by decide +kernel
theorem jv_kc5 : (jv_cal5).all (jv_ckc1 5) = true := by decide +kernel
theorem jv_kc6 : (jv_cal6).all (jv_ckc1 6) = true := by decide +kernel
theorem jv_kc7 : (jv_cal7).all (jv_ckc1 7) = true := by decide +kernel
theorem jv_kc8 : (jv_cal8).all (jv_ckc1 8) = true := by decide +kernel
theorem jv_kc9 : (jv_cal9).all (jv_ckc1 9) = true := by decide +kernel
theorem jv_kc10 : (jv_cal10).all (jv_ckc1 10) = true := by decide +kernel
theorem jv_ckc_ok {ow i : Nat} {v : Nat × Nat × Nat} (h : jv_cal ow i = some v) : jv_ckc1 ow (i, v) = true := by
  unfold jv_cal at h
  split at h
  · cases h
  · rename_i a ha
    have hm := jv_as_mem a h
    match ow, ha with
    | 0, ha => cases ha; exact List.all_eq_true.mp jv_kc0 _ hm
    | 1, ha => cases ha; exact List.all_eq_true.mp jv_kc1 _ hm
    | 2, ha => cases ha; exact List.all_eq_true.mp jv_kc2 _ hm
    | 3, ha => cases ha; exact List.all_eq_true.mp jv_kc3 _ hm
    | 4, ha => cases ha; exact List.all_eq_true.mp jv_kc4 _ hm
    | 5, ha => cases ha; exact List.all_eq_true.mp jv_kc5 _ hm
    | 6, ha => cases ha; exact List.all_eq_true.mp jv_kc6 _ hm
    | 7, ha => cases ha; exact List.all_eq_true.mp jv_kc7 _ hm
    | 8, ha => cases ha; exact List.all_eq_true.mp jv_kc8 _ hm
    | 9, ha => cases ha; exact List.all_eq_true.mp jv_kc9 _ hm
    | 10, ha => cases ha; exact List.all_eq_true.mp jv_kc10 _ hm
    | ow + 11, ha => rw [show jv_nth jv_cals (ow + 11) = jv_nth ([] : List (List (Nat × Nat × Nat × Nat))) ow from rfl, jv_nil] at ha; cases ha
theorem jv_kn0 : (jv_new0).all (jv_ckn1 0) = true := by decide +kernel
theorem jv_kn1 : (jv_new1).all (jv_ckn1 1) = true := by decide +kernel
theorem jv_kn2 : (jv_new2).all (jv_ckn1 2) = true := by decide +kernel
theorem jv_kn3 : (jv_new3).all (jv_ckn1 3) = true := by decide +kernel
theorem jv_kn4 : (jv_new4).all (jv_ckn1 4) = true := by decide +kernel
theorem jv_kn5 : (jv_new5).all (jv_ckn1 5) = true := by decide +kernel
theorem jv_kn6 : (jv_new6).all (jv_ckn1 6) = true := by decide +kernel
theorem jv_kn7 : (jv_new7).all (jv_ckn1 7) = true := by decide +kernel
theorem jv_kn8 : (jv_new8).all (jv_ckn1 8) = true := by decide +kernel
theorem jv_kn9 : (jv_new9).all (jv_ckn1 9) = true := by decide +kernel
theorem jv_kn10 : (jv_new10).all (jv_ckn1 10) = true := by decide +kernel
theorem jv_ckn_ok {ow i : Nat} {v : Nat} (h : jv_new ow i = some v) : jv_ckn1 ow (i, v) = true := by
  unfold jv_new at h
  split at h
  · cases h
  · rename_i a ha
    have hm := jv_as_mem a h
    match ow, ha with
    | 0, ha => cases ha; exact List.all_eq_true.mp jv_kn0 _ hm
    | 1, ha => cases ha; exact List.all_eq_true.mp jv_kn1 _ hm
    | 2, ha => cases ha; exact List.all_eq_true.mp jv_kn2 _ hm
    | 3, ha => cases ha; exact List.all_eq_true.mp jv_kn3 _ hm
    | 4, ha => cases ha; exact List.all_eq_true.mp jv_kn4 _ hm
    | 5, ha => cases ha; exact List.all_eq_true.mp jv_kn5 _ hm
    | 6, ha => cases ha; exact List.all_eq_true.mp jv_kn6 _ hm
    | 7, ha => cases ha; exact List.all_eq_true.mp jv_kn7 _ hm
    | 8, ha => cases ha; exact List.all_eq_true.mp jv_kn8 _ hm
    | 9, ha => cases ha; exact List.all_eq_true.mp jv_kn9 _ hm
    | 10, ha => cases ha; exact List.all_eq_true.mp jv_kn10 _ hm
    | ow + 11, ha => rw [show jv_nth jv_news (ow + 11) = jv_nth ([] : List (List (Nat × Nat))) ow from rfl, jv_nil] at ha; cases ha
theorem jv_kl0 : (jv_ldc0).all (jv_ckl1 0) = true := by decide +kernel
theorem jv_kl1 : (jv_ldc1).all (jv_ckl1 1) = true := by decide +kernel
theorem jv_kl2 : (jv_ldc2).all (jv_ckl1 2) = true := by decide +kernel
theorem jv_kl3 : (jv_ldc3).all (jv_ckl1 3) = true := by decide +kernel
theorem jv_kl4 : (jv_ldc4).all (jv_ckl1 4) = true := by decide +kernel
theorem jv_kl5 : (jv_ldc5).all (jv_ckl1 5) = true := by decide +kernel
theorem jv_kl6 : (jv_ldc6).all (jv_ckl1 6) = true := by decide +kernel
theorem jv_kl7 : (jv_ldc7).all (jv_ckl1 7) = true := by decide +kernel
theorem jv_kl8 : (jv_ldc8).all (jv_ckl1 8) = true := by decide +kernel
theorem jv_kl9 : (jv_ldc9).all (jv_ckl1 9) = true := by decide +kernel
theorem jv_kl10 : (jv_ldc10).all (jv_ckl1 10) = true := by decide +kernel
theorem jv_ckl_ok {ow i : Nat} {v : Value} (h : jv_ldc ow i = some v) : jv_ckl1 ow (i, v) = true := by
  unfold jv_ldc at h
  split at h
  · cases h
  · rename_i a ha
    have hm := jv_as_mem a h
    match ow, ha with
    | 0, ha => cases ha; exact List.all_eq_true.mp jv_kl0 _ hm
    | 1, ha => cases ha; exact List.all_eq_true.mp jv_kl1 _ hm
    | 2, ha => cases ha; exact List.all_eq_true.mp jv_kl2 _ hm
    | 3, ha => cases ha; exact List.all_eq_true.mp jv_kl3 _ hm
    | 4, ha => cases ha; exact List.all_eq_true.mp jv_kl4 _ hm
    | 5, ha => cases ha; exact List.all_eq_true.mp jv_kl5 _ hm
    | 6, ha => cases ha; exact List.all_eq_true.mp jv_kl6 _ hm
    | 7, ha => cases ha; exact List.all_eq_true.mp jv_kl7 _ hm
    | 8, ha => cases ha; exact List.all_eq_true.mp jv_kl8 _ hm
    | 9, ha => cases ha; exact List.all_eq_true.mp jv_kl9 _ hm
    | 10, ha => cases ha; exact List.all_eq_true.mp jv_kl10 _ hm
    | ow + 11, ha => rw [show jv_nth jv_ldcs (ow + 11) = jv_nth ([] : List (List (Nat × Value))) ow from rfl, jv_nil] at ha; cases ha
def jv_hl100 : List Nat := [256, 258, 260]
theorem jv_lay0 : (List.range (jv_fn 0)).all (fun k => jv_in (jv_hl100.getD k 0) (u_lay (jv_own 0) (jv_fT 0) k)) = true := by decide +kernel
def jv_hl101 : List Nat := [333, 335, 337]
theorem jv_lay1 : (List.range (jv_fn 1)).all (fun k => jv_in (jv_hl101.getD k 0) (u_lay (jv_own 1) (jv_fT 1) k)) = true := by decide +kernel
def jv_hl102 : List Nat := [206, 208, 210, 212, 214, 216]
theorem jv_lay2 : (List.range (jv_fn 2)).all (fun k => jv_in (jv_hl102.getD k 0) (u_lay (jv_own 2) (jv_fT 2) k)) = true := by decide +kernel
def jv_hl103 : List Nat := [230, 232, 234]
theorem jv_lay3 : (List.range (jv_fn 3)).all (fun k => jv_in (jv_hl103.getD k 0) (u_lay (jv_own 3) (jv_fT 3) k)) = true := by decide +kernel
def jv_hl104 : List Nat := [117, 119]
theorem jv_lay4 : (List.range (jv_fn 4)).all (fun k => jv_in (jv_hl104.getD k 0) (u_lay (jv_own 4) (jv_fT 4) k)) = true := by decide +kernel
def jv_hl105 : List Nat := [291, 293, 295, 297, 299, 301, 303, 305, 307, 309, 311, 313, 315]
theorem jv_lay5 : (List.range (jv_fn 5)).all (fun k => jv_in (jv_hl105.getD k 0) (u_lay (jv_own 5) (jv_fT 5) k)) = true := by decide +kernel
def jv_hl106 : List Nat := [177, 179, 181, 183, 185, 187, 189, 191, 193, 195]
theorem jv_lay6 : (List.range (jv_fn 6)).all (fun k => jv_in (jv_hl106.getD k 0) (u_lay (jv_own 6) (jv_fT 6) k)) = true := by decide +kernel
def jv_hl107 : List Nat := [351, 353, 355, 357, 359, 361, 363, 365, 367, 369]
theorem jv_lay7 : (List.range (jv_fn 7)).all (fun k => jv_in (jv_hl107.getD k 0) (u_lay (jv_own 7) (jv_fT 7) k)) = true := by decide +kernel
def jv_hl108 : List Nat := [1071, 1073, 1075, 1077, 1079, 1081, 1083, 1085, 1087, 1089, 1091, 1093, 1095, 1097, 1099, 1101, 1103, 1105]
theorem jv_lay8 : (List.range (jv_fn 8)).all (fun k => jv_in (jv_hl108.getD k 0) (u_lay (jv_own 8) (jv_fT 8) k)) = true := by decide +kernel
theorem jv_ws_in (c : Nat) (h : c < 9) : ∀ w ∈ u_ws (jv_own c) (jv_fT c) (jv_fn c), w ∈ jv_T := by
  intro w hw
  obtain ⟨k, hk, rfl⟩ := List.mem_map.mp hw
  match c, h with
  | 0, _ => exact jv_in_ok (List.all_eq_true.mp jv_lay0 k hk)
  | 1, _ => exact jv_in_ok (List.all_eq_true.mp jv_lay1 k hk)
  | 2, _ => exact jv_in_ok (List.all_eq_true.mp jv_lay2 k hk)
  | 3, _ => exact jv_in_ok (List.all_eq_true.mp jv_lay3 k hk)
  | 4, _ => exact jv_in_ok (List.all_eq_true.mp jv_lay4 k hk)
  | 5, _ => exact jv_in_ok (List.all_eq_true.mp jv_lay5 k hk)
  | 6, _ => exact jv_in_ok (List.all_eq_true.mp jv_lay6 k hk)
  | 7, _ => exact jv_in_ok (List.all_eq_true.mp jv_lay7 k hk)
  | 8, _ => exact jv_in_ok (List.all_eq_true.mp jv_lay8 k hk)
  | c + 9, h => omega
theorem jv_ty_ok (c : Nat) (h : c < 9) : ∀ k, k < jv_fn c → parseFieldDescriptor (jv_fT c k).2.2.1 = some (jv_fty c k) := by
  match c, h with
  | 0, _ => exact tyX0_ok
  | 1, _ => exact tyX1_ok
  | 2, _ => exact tyX2_ok
  | 3, _ => exact tyX3_ok
  | 4, _ => exact tyX4_ok
  | 5, _ => exact tyX5_ok
  | 6, _ => exact tyX6_ok
  | 7, _ => exact tyX7_ok
  | 8, _ => exact tyX8_ok
  | c + 9, h => omega
theorem jv_nm_ok (c : Nat) (h : c < 9) : ∀ a, a < jv_fn c → ∀ b, b < jv_fn c → a ≠ b → (jv_fT c a).2.1 ≠ (jv_fT c b).2.1 := by
  match c, h with
  | 0, _ => exact nmX0
  | 1, _ => exact nmX1
  | 2, _ => exact nmX2
  | 3, _ => exact nmX3
  | 4, _ => exact nmX4
  | 5, _ => exact nmX5
  | 6, _ => exact nmX6
  | 7, _ => exact nmX7
  | 8, _ => exact nmX8
  | c + 9, h => omega
theorem jv_dcl_ok : ∀ c, c < 9 → ∀ k, k < jv_fn c → (jv_fT c k).1 = jv_own c := by decide +kernel
theorem jv_inst_ok : ∀ c, c < 9 → jv_in (([247, 322, 102, 220, 108, 238, 124, 94, 1049] : List Nat).getD c 0) (.instantiable (jv_own c) (jv_fn c)) = true ∧ jv_in (([85, 86, 80, 83, 81, 84, 82, 79, 87] : List Nat).getD c 0) (.initialized (jv_own c)) = true := by decide +kernel
theorem jv_arrI : jv_in 122 (.arrayClass .int) = true := by decide +kernel
theorem jv_arrZ : jv_in 340 (.arrayClass .boolean) = true := by decide +kernel
theorem jv_arrT6 : Cond.arrayOver (.object "SeatSwap$Traveller") ∈ lw_tbl := List.mem_of_getElem? (i := 244) (by decide +kernel)
theorem jv_arrT5 : Cond.arrayOver (.object "SeatSwap$Train") ∈ lw_tbl := List.mem_of_getElem? (i := 320) (by decide +kernel)
theorem jv_obI : jv_in 99 (.instanceMethod Lib.objectInit) = true := by decide +kernel
theorem jv_obC : jv_in 100 (.code Lib.objectInit ⟨#[0xb1]⟩ 1 none) = true := by decide +kernel
