/-! heads of the methods (positions printed by wip/tool/heads.py) -/
def pm_ckh (kd : Nat) (y : pm_Hd) (e : pm_M) (ps : Nat × Nat × Nat × Nat) : Bool :=
  (Nat.beq kd 0 || Nat.beq kd 14) || ((match tables_1[y.2.1]? with
    | some (.code y2 _ l2 r2) => decide (y2 = y.1) && (Nat.beq l2 e.2.1 && decide (r2 = y.2.2))
    | _ => false) && (!Nat.beq y.2.1 99999 && (decide (tables_1[ps.2.2.2]? = some (.initialized y.1.cls)) && (decide (y.1.cls = pm_nm e.2.2.1) && (pm_tyok e.2.2.2.1 y.2.2 && (Nat.ble e.2.1 80 && (Jvm.plainName y.1.cls && (decide (y.1.cls ≠ "java/lang/invoke/MethodHandle") && (decide (y.1.cls ≠ "java/lang/invoke/VarHandle") &&
    (match kd with
    | 1 => decide (tables_1[ps.2.1]? = some (.instanceMethod y.1)) && (decide (lw_tbl[ps.2.2.1]? = some (.selects y.1.cls y.1 y.1)) && decide ((parseMethodDescriptor y.1.desc).map (fun d => d.parameters.length + 1) = some e.1))
    | 2 => decide (tables_1[ps.2.1]? = some (.static y.1)) && decide ((parseMethodDescriptor y.1.desc).map (fun d => d.parameters.length) = some e.1)
    | _ => decide (tables_1[ps.2.1]? = some (.instanceMethod y.1)) && (decide (y.1.name = "<init>") && decide ((parseMethodDescriptor y.1.desc).map (fun d => d.parameters.length + 1) = some e.1))))))))))))
noncomputable def pm_hrow (q : Nat × Nat) (ps : Nat × Nat × Nat × Nat) : Bool := match pm_get pm_hds q.1, pm_ent q.1 with
  | some y, some e => pm_ckh q.2 y e ps
  | _, _ => false
noncomputable def pm_hrows (l : List (Nat × Nat)) (ps : List (Nat × Nat × Nat × Nat)) : Bool := match l, ps with
  | [], _ => true
  | q :: l, i :: ps => pm_hrow q i && pm_hrows l ps
  | _ :: _, [] => false
theorem pm_hrows_mem : ∀ {l : List (Nat × Nat)} {ps : List (Nat × Nat × Nat × Nat)}, pm_hrows l ps = true → ∀ q ∈ l, ∃ i, pm_hrow q i = true
  | [], _, _, q, hq => absurd hq List.not_mem_nil
  | a :: l, [], h, q, hq => by cases h
  | a :: l, i :: ps, h, q, hq => by
    have h2 : (pm_hrow a i && pm_hrows l ps) = true := h
    rw [Bool.and_eq_true] at h2
    rcases List.mem_cons.mp hq with rfl | hq
    · exact ⟨i, h2.1⟩
    · exact pm_hrows_mem h2.2 q hq
theorem pm_hc0 : pm_hrows (pm_kdt.getD 0 []) [(64, 63, 0, 3), (407, 405, 509, 3), (891, 889, 993, 3), (898, 896, 1000, 3), (1082, 1080, 1184, 3), (112, 111, 0, 7), (478, 476, 580, 7), (484, 483, 0, 7), (488, 486, 590, 7), (562, 560, 664, 7), (571, 569, 673, 7), (575, 573, 677, 7), (579, 577, 681, 7), (1066, 1064, 1168, 7), (1226, 1224, 1328, 7), (77, 76, 0, 4)] = true := by decide +kernel
theorem pm_hc1 : pm_hrows (pm_kdt.getD 1 []) [(383, 381, 485, 4), (387, 385, 489, 4), (391, 389, 493, 4), (415, 413, 517, 4), (419, 417, 521, 4), (423, 421, 525, 4), (430, 428, 532, 4), (507, 505, 609, 4), (528, 526, 630, 4), (863, 861, 965, 4), (878, 876, 980, 4), (1012, 1010, 1114, 4), (1016, 1014, 1118, 4), (1121, 1119, 1223, 4), (270, 269, 0, 13), (1095, 1093, 1197, 13)] = true := by decide +kernel
theorem pm_hc2 : pm_hrows (pm_kdt.getD 2 []) [(1100, 1098, 1202, 13), (1104, 1102, 1206, 13), (1108, 1106, 1210, 13), (250, 249, 0, 12), (961, 959, 1063, 12), (965, 963, 1067, 12), (974, 972, 1076, 12), (978, 976, 1080, 12), (1091, 1089, 1193, 12), (1112, 1110, 1214, 12), (1125, 1123, 1227, 12), (155, 154, 0, 9), (612, 610, 714, 9), (728, 727, 10, 9), (732, 731, 11, 9), (774, 773, 12, 9)] = true := by decide +kernel
theorem pm_hc3 : pm_hrows (pm_kdt.getD 3 []) [(783, 782, 13, 9), (795, 794, 14, 9), (799, 798, 15, 9), (803, 802, 16, 9), (807, 806, 17, 9), (811, 810, 18, 9), (817, 816, 19, 9), (820, 819, 0, 9), (825, 824, 20, 9), (40, 39, 0, 2), (364, 362, 466, 2), (376, 374, 478, 2), (450, 448, 552, 2), (458, 456, 560, 2), (499, 497, 601, 2), (503, 501, 605, 2)] = true := by decide +kernel
theorem pm_hc4 : pm_hrows (pm_kdt.getD 4 []) [(887, 885, 989, 2), (1008, 1006, 1110, 2), (1129, 1127, 1231, 2), (194, 193, 0, 10), (616, 614, 718, 10), (765, 763, 867, 10), (769, 767, 871, 10), (791, 789, 893, 10), (829, 827, 931, 10), (837, 835, 939, 10), (904, 902, 1006, 10), (908, 906, 1010, 10), (912, 911, 23, 10), (915, 914, 0, 10), (918, 917, 0, 10), (994, 992, 1096, 10)] = true := by decide +kernel
theorem pm_hc5 : pm_hrows (pm_kdt.getD 5 []) [(90, 89, 0, 6), (445, 443, 547, 6), (462, 460, 564, 6), (466, 464, 568, 6), (470, 468, 572, 6), (474, 472, 576, 6), (533, 531, 635, 6), (538, 536, 640, 6), (545, 544, 5, 6), (558, 557, 6, 6), (1045, 1043, 1147, 6), (1050, 1049, 33, 6), (1054, 1053, 34, 6), (1215, 1213, 1317, 6), (1261, 1259, 1363, 6), (1265, 1264, 38, 6)] = true := by decide +kernel
theorem pm_hc6 : pm_hrows (pm_kdt.getD 6 []) [(125, 124, 0, 8), (587, 585, 689, 8), (593, 591, 695, 8), (604, 602, 706, 8), (620, 618, 722, 8), (624, 622, 726, 8), (627, 626, 0, 8), (630, 629, 0, 8), (634, 633, 8, 8), (637, 636, 0, 8), (641, 640, 9, 8), (736, 734, 838, 8), (740, 738, 842, 8), (779, 777, 881, 8), (787, 785, 889, 8), (833, 831, 935, 8)] = true := by decide +kernel
theorem pm_hc7 : pm_hrows (pm_kdt.getD 7 []) [(223, 222, 0, 11), (859, 857, 961, 11), (871, 870, 21, 11), (882, 881, 22, 11), (921, 920, 0, 11), (927, 925, 1029, 11), (32, 31, 0, 1), (351, 349, 453, 1), (354, 353, 0, 1), (357, 356, 0, 1), (360, 359, 0, 1), (368, 366, 470, 1), (372, 371, 0, 1), (379, 378, 0, 1), (395, 393, 497, 1), (399, 397, 501, 1)] = true := by decide +kernel
theorem pm_hc8 : pm_hrows (pm_kdt.getD 8 []) [(403, 401, 505, 1), (411, 409, 513, 1), (434, 432, 536, 1), (437, 436, 0, 1), (441, 440, 1, 1), (454, 453, 2, 1), (495, 493, 597, 1), (512, 511, 3, 1), (516, 514, 618, 1), (519, 518, 0, 1), (524, 523, 4, 1), (566, 564, 668, 1), (583, 581, 685, 1), (597, 595, 699, 1), (600, 599, 0, 1), (608, 607, 7, 1)] = true := by decide +kernel
theorem pm_hc9 : pm_hrows (pm_kdt.getD 9 []) [(855, 853, 957, 1), (931, 929, 1033, 1), (935, 934, 24, 1), (939, 938, 25, 1), (944, 942, 1046, 1), (948, 946, 1050, 1), (953, 952, 26, 1), (957, 955, 1059, 1), (970, 968, 1072, 1), (982, 980, 1084, 1), (986, 984, 1088, 1), (990, 989, 27, 1), (998, 997, 28, 1), (1003, 1002, 29, 1), (1021, 1020, 30, 1), (1025, 1024, 31, 1)] = true := by decide +kernel
theorem pm_hc10 : pm_hrows (pm_kdt.getD 10 []) [(1031, 1029, 1133, 1), (1036, 1034, 1138, 1), (1040, 1039, 32, 1), (1061, 1059, 1163, 1), (1070, 1068, 1172, 1), (1074, 1072, 1176, 1), (1078, 1077, 35, 1), (1087, 1085, 1189, 1), (1117, 1115, 1219, 1), (1137, 1135, 1239, 1), (1203, 1202, 37, 1), (1211, 1209, 1313, 1), (1222, 1220, 1324, 1), (1234, 1232, 1336, 1), (1237, 1236, 0, 1), (1240, 1239, 0, 1)] = true := by decide +kernel
theorem pm_hc11 : pm_hrows (pm_kdt.getD 11 []) [(1243, 1242, 0, 1), (1250, 1248, 1352, 1), (1257, 1255, 1359, 1), (1272, 1270, 1374, 1), (1279, 1277, 1381, 1), (1286, 1284, 1388, 1), (1293, 1291, 1395, 1), (1297, 1296, 39, 1), (1304, 1302, 1406, 1), (1308, 1307, 40, 1), (1312, 1311, 41, 1), (1319, 1317, 1421, 1), (1323, 1322, 42, 1), (1327, 1326, 43, 1), (1331, 1330, 44, 1), (1335, 1334, 45, 1)] = true := by decide +kernel
theorem pm_hc12 : pm_hrows (pm_kdt.getD 12 []) [(1339, 1338, 46, 1), (1347, 1345, 1449, 1), (1351, 1350, 47, 1), (1358, 1356, 1460, 1), (1362, 1361, 48, 1), (1366, 1364, 1468, 14), (1370, 1368, 1472, 14), (1375, 1373, 49, 14), (1379, 1378, 0, 14), (1588, 1586, 1690, 14), (1591, 1590, 0, 14), (1595, 1593, 1697, 14), (1599, 1598, 50, 14), (1602, 1601, 0, 14), (1606, 1604, 1708, 14), (1610, 1608, 1712, 14)] = true := by decide +kernel
theorem pm_hc13 : pm_hrows (pm_kdt.getD 13 []) [(1614, 1612, 1716, 14), (1618, 1616, 1720, 14), (1622, 1621, 51, 14), (1626, 1625, 52, 14), (1630, 1628, 1732, 14), (1633, 1632, 0, 14), (1637, 1636, 53, 14), (1641, 1640, 54, 14), (1645, 1643, 1747, 14), (1648, 1647, 0, 14), (1652, 1651, 55, 14), (1656, 1655, 56, 14), (1660, 1659, 57, 14), (1664, 1663, 58, 14), (1668, 1667, 59, 14), (1671, 1670, 0, 14)] = true := by decide +kernel
theorem pm_hc14 : pm_hrows (pm_kdt.getD 14 []) [(1675, 1673, 1777, 14), (1679, 1677, 1781, 14), (1683, 1682, 60, 14), (1687, 1686, 61, 14), (1691, 1689, 1793, 14), (1695, 1693, 1797, 14), (1699, 1697, 1801, 14), (1703, 1701, 1805, 14), (1707, 1706, 62, 14), (1711, 1709, 1813, 14), (1717, 1715, 1819, 14), (1721, 1719, 1823, 14), (1725, 1723, 1827, 14), (1729, 1727, 1831, 14), (1733, 1732, 63, 14), (1736, 1735, 0, 14)] = true := by decide +kernel
theorem pm_hc15 : pm_hrows (pm_kdt.getD 15 []) [(1740, 1739, 0, 14), (1743, 1742, 0, 14), (1748, 1747, 0, 14), (1752, 1751, 64, 14), (1756, 1755, 65, 14), (1760, 1759, 66, 14), (1764, 1763, 67, 14), (1768, 1767, 68, 14), (1772, 1771, 69, 14), (1776, 1775, 70, 14), (1780, 1779, 71, 14), (1784, 1783, 72, 14), (1788, 1787, 73, 14), (1792, 1791, 74, 14), (1796, 1795, 75, 14), (1800, 1799, 76, 14)] = true := by decide +kernel
theorem pm_hc16 : pm_hrows (pm_kdt.getD 16 []) [(1804, 1803, 77, 14), (1808, 1807, 78, 14), (1812, 1811, 79, 14), (1816, 1814, 1918, 14), (1820, 1819, 80, 14), (1828, 1827, 81, 14), (1832, 1831, 82, 14), (1836, 1835, 83, 14), (1840, 1839, 84, 14), (1843, 1842, 0, 14), (1847, 1846, 85, 14), (1851, 1850, 86, 14), (1855, 1853, 1957, 14), (1858, 1857, 0, 14), (1862, 1861, 87, 14), (1866, 1864, 1968, 14)] = true := by decide +kernel
theorem pm_hc17 : pm_hrows (pm_kdt.getD 17 []) [(1870, 1868, 1972, 14), (1874, 1872, 1976, 14), (1878, 1876, 1980, 14), (1882, 1881, 88, 14), (1886, 1884, 1988, 14), (1890, 1888, 1992, 14), (1893, 1892, 0, 14), (1897, 1896, 89, 14), (1902, 1900, 2004, 14), (1906, 1905, 90, 14), (1910, 1909, 91, 14), (1914, 1913, 92, 14), (1918, 1916, 2020, 14), (1922, 1921, 93, 14), (1926, 1924, 2028, 14), (1930, 1928, 2032, 14)] = true := by decide +kernel
theorem pm_hc18 : pm_hrows (pm_kdt.getD 18 []) [(1935, 1933, 2037, 14), (1939, 1938, 94, 14), (1943, 1942, 95, 14), (1947, 1946, 96, 14), (1951, 1949, 2053, 14), (1955, 1954, 97, 14), (1959, 1957, 2061, 14), (1963, 1962, 98, 14), (1968, 1967, 99, 14), (1971, 1970, 0, 14), (1974, 1973, 0, 14), (1977, 1976, 0, 14), (1981, 1979, 2083, 14), (1986, 1984, 2088, 14), (1990, 1989, 100, 14), (1994, 1992, 2096, 14)] = true := by decide +kernel
theorem pm_hc19 : pm_hrows (pm_kdt.getD 19 []) [(1998, 1996, 2100, 14), (2002, 2001, 101, 14), (2006, 2004, 2108, 14), (2010, 2009, 102, 14), (2014, 2012, 2116, 14), (0, 0, 0, 0), (0, 0, 0, 0), (0, 0, 0, 0), (0, 0, 0, 0), (0, 0, 0, 0), (0, 0, 0, 0), (0, 0, 0, 0), (0, 0, 0, 0), (0, 0, 0, 0), (0, 0, 0, 0), (0, 0, 0, 0)] = true := by decide +kernel
theorem pm_hc20 : pm_hrows (pm_kdt.getD 20 []) [(0, 0, 0, 0), (0, 0, 0, 0), (0, 0, 0, 0), (0, 0, 0, 0), (81, 80, 0, 5), (840, 839, 0, 5), (551, 550, 0, 21), (1057, 1056, 0, 21), (491, 490, 0, 20), (646, 644, 748, 22), (650, 648, 752, 22), (654, 652, 756, 22), (660, 658, 762, 22), (664, 662, 766, 22), (693, 692, 0, 22), (745, 743, 847, 22)] = true := by decide +kernel
theorem pm_hc21 : pm_hrows (pm_kdt.getD 21 []) [(751, 750, 0, 22), (667, 666, 0, 23), (670, 669, 0, 23), (675, 674, 0, 23), (748, 747, 0, 23)] = true := by decide +kernel
theorem pm_head {m kd : Nat} (h : pm_get pm_kdt m = some kd) : ∃ y e ps, pm_get pm_hds m = some y ∧ pm_ent m = some e ∧ pm_ckh kd y e ps = true := by
  have key : ∃ i, pm_hrow (m, kd) i = true := by
    unfold pm_get at h
    cases hc : pm_nth pm_kdt (m / 16) with
    | none => rw [hc] at h; cases h
    | some c =>
      rw [hc] at h
      have hm : (m, kd) ∈ c := pm_fnd_mem h
      rw [pm_nth_eq] at hc
      have hd : pm_kdt.getD (m / 16) [] = c := by rw [List.getD_eq_getElem?_getD, hc]; rfl
      rw [← hd] at hm
      have hlt : m / 16 < 22 := (List.getElem?_eq_some_iff.mp hc).1
      match hz : m / 16 with
      | 0 => rw [hz] at hm; exact pm_hrows_mem pm_hc0 _ hm
      | 1 => rw [hz] at hm; exact pm_hrows_mem pm_hc1 _ hm
      | 2 => rw [hz] at hm; exact pm_hrows_mem pm_hc2 _ hm
      | 3 => rw [hz] at hm; exact pm_hrows_mem pm_hc3 _ hm
      | 4 => rw [hz] at hm; exact pm_hrows_mem pm_hc4 _ hm
      | 5 => rw [hz] at hm; exact pm_hrows_mem pm_hc5 _ hm
      | 6 => rw [hz] at hm; exact pm_hrows_mem pm_hc6 _ hm
      | 7 => rw [hz] at hm; exact pm_hrows_mem pm_hc7 _ hm
      | 8 => rw [hz] at hm; exact pm_hrows_mem pm_hc8 _ hm
      | 9 => rw [hz] at hm; exact pm_hrows_mem pm_hc9 _ hm
      | 10 => rw [hz] at hm; exact pm_hrows_mem pm_hc10 _ hm
      | 11 => rw [hz] at hm; exact pm_hrows_mem pm_hc11 _ hm
      | 12 => rw [hz] at hm; exact pm_hrows_mem pm_hc12 _ hm
      | 13 => rw [hz] at hm; exact pm_hrows_mem pm_hc13 _ hm
      | 14 => rw [hz] at hm; exact pm_hrows_mem pm_hc14 _ hm
      | 15 => rw [hz] at hm; exact pm_hrows_mem pm_hc15 _ hm
      | 16 => rw [hz] at hm; exact pm_hrows_mem pm_hc16 _ hm
      | 17 => rw [hz] at hm; exact pm_hrows_mem pm_hc17 _ hm
      | 18 => rw [hz] at hm; exact pm_hrows_mem pm_hc18 _ hm
      | 19 => rw [hz] at hm; exact pm_hrows_mem pm_hc19 _ hm
      | 20 => rw [hz] at hm; exact pm_hrows_mem pm_hc20 _ hm
      | 21 => rw [hz] at hm; exact pm_hrows_mem pm_hc21 _ hm
      | j + 22 => exact absurd hlt (by omega)
  obtain ⟨i, hi⟩ := key
  unfold pm_hrow at hi
  split at hi
  · rename_i y e h1 h2
    exact ⟨y, e, i, h1, h2, hi⟩
  · cases hi
