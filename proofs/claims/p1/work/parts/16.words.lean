/-! ===== THE TABLES, 2: where the words stand; links; the check of a row (printed by wip/engine/gen2.py) ===== -/
def GT : List Cond := lw_tbl.filter goodWord
theorem GT_good : ∀ w ∈ GT, goodWord w = true := fun w hw => (List.mem_filter.mp hw).2
theorem GT_tbl : ∀ w ∈ GT, w ∈ lw_tbl := fun w hw => (List.mem_filter.mp hw).1
def chk (i : Nat) (w : Cond) : Bool := decide (lw_tbl[i]? = some w) && goodWord w
theorem chk_in {i : Nat} {w : Cond} (h : chk i w = true) : w ∈ GT := by
  unfold chk at h
  rw [Bool.and_eq_true, decide_eq_true_eq] at h
  exact List.mem_filter.mpr ⟨List.mem_of_getElem? h.1, h.2⟩
def lyF (ci : Nat) : List Nat := bif Nat.blt ci 5 then (bif Nat.blt ci 2 then (bif Nat.blt ci 1 then ([309, 311, 313]) else ([442, 444, 446, 448, 450, 452, 454, 456])) else (bif Nat.blt ci 3 then ([413, 415, 417, 419, 421]) else (bif Nat.blt ci 4 then ([220, 222, 224, 226, 228, 230, 232, 234, 236, 238, 240, 242, 244, 246, 248]) else ([266, 268, 270, 272, 274, 276, 278, 280, 282, 284, 286])))) else (bif Nat.blt ci 8 then (bif Nat.blt ci 6 then ([351, 353, 355]) else (bif Nat.blt ci 7 then ([327, 329, 331]) else ([368, 370, 372, 374]))) else (bif Nat.blt ci 9 then ([391, 393, 395, 397]) else (bif Nat.blt ci 10 then ([469, 471, 473, 475, 477, 479, 481, 483, 485]) else ([1527, 1529, 1531, 1533, 1535, 1537, 1539, 1541, 1543, 1545, 1547, 1549, 1551, 1553, 1555, 1557, 1559, 1561, 1563, 1565, 1567, 1569, 1571, 1573, 1575, 1577, 1579, 1581, 1583, 1585, 1587, 1589, 1591, 1593, 1595, 1597, 1599, 1601, 1603, 1605, 1607, 1609, 1611, 1613, 1615, 1617, 1619, 1621, 1623, 1625, 1627, 1629, 1631, 1633, 1635, 1637]))))
def clF (ci : Nat) : vw_C := bif Nat.blt ci 5 then (bif Nat.blt ci 2 then (bif Nat.blt ci 1 then ((RX0, TX0, 3)) else ((RX1, TX1, 8))) else (bif Nat.blt ci 3 then ((RX2, TX2, 5)) else (bif Nat.blt ci 4 then ((RX3, TX3, 15)) else ((RX4, TX4, 11))))) else (bif Nat.blt ci 8 then (bif Nat.blt ci 6 then ((RX5, TX5, 3)) else (bif Nat.blt ci 7 then ((RX6, TX6, 3)) else ((RX8, TX8, 4)))) else (bif Nat.blt ci 9 then ((RX9, TX9, 4)) else (bif Nat.blt ci 10 then ((RX10, TX10, 9)) else ((RX11, TX11, 56)))))
def tyR (ci : Nat) : Nat → FieldType := bif Nat.blt ci 5 then (bif Nat.blt ci 2 then (bif Nat.blt ci 1 then (tyX0) else (tyX1)) else (bif Nat.blt ci 3 then (tyX2) else (bif Nat.blt ci 4 then (tyX3) else (tyX4)))) else (bif Nat.blt ci 8 then (bif Nat.blt ci 6 then (tyX5) else (bif Nat.blt ci 7 then (tyX6) else (tyX8))) else (bif Nat.blt ci 9 then (tyX9) else (bif Nat.blt ci 10 then (tyX10) else (tyX11))))
def FLs : List (Nat × Nat × Nat × Nat × Nat) := [(304, 0, 11, 0, 0), (305, 0, 15, 0, 1), (308, 0, 19, 0, 2), (349, 0, 28, 5, 1), (440, 1, 9, 1, 6), (441, 1, 15, 1, 7), (430, 1, 19, 1, 0), (431, 1, 23, 1, 1), (359, 1, 27, 7, 0), (364, 1, 38, 7, 2), (432, 1, 52, 1, 2), (434, 1, 56, 1, 3), (169, 1, 65, 3, 0), (436, 1, 91, 1, 4), (438, 1, 94, 1, 5), (407, 2, 9, 2, 1), (411, 2, 15, 2, 3), (412, 2, 18, 2, 4), (406, 2, 21, 2, 0), (173, 2, 34, 3, 1), (409, 2, 44, 2, 2), (168, 2, 47, 3, 0), (187, 2, 60, 3, 5), (182, 3, 9, 3, 4), (186, 3, 15, 3, 5), (191, 3, 18, 3, 6), (194, 3, 21, 3, 7), (198, 3, 24, 3, 8), (201, 3, 27, 3, 9), (204, 3, 30, 3, 10), (209, 3, 33, 3, 11), (211, 3, 36, 3, 12), (214, 3, 39, 3, 13), (217, 3, 42, 3, 14), (165, 3, 48, 3, 0), (172, 3, 52, 3, 1), (177, 3, 55, 3, 2), (179, 3, 58, 3, 3), (252, 4, 12, 4, 0), (254, 4, 18, 4, 1), (257, 4, 22, 4, 3), (255, 4, 26, 4, 2), (260, 4, 32, 4, 5), (261, 4, 35, 4, 6), (265, 4, 38, 4, 10), (259, 4, 42, 4, 4), (262, 4, 48, 4, 7), (263, 4, 55, 4, 8), (348, 5, 11, 5, 1), (350, 5, 15, 5, 2), (347, 5, 18, 5, 0), (166, 5, 31, 3, 0), (192, 5, 37, 3, 6), (199, 5, 40, 3, 8), (202, 5, 43, 3, 9), (176, 5, 55, 3, 1), (208, 5, 66, 3, 10), (197, 5, 101, 3, 7), (216, 5, 129, 3, 13), (219, 5, 137, 3, 14), (325, 6, 11, 6, 1), (326, 6, 15, 6, 2), (322, 6, 18, 6, 0), (361, 7, 12, 7, 1), (363, 7, 21, 7, 2), (366, 7, 25, 7, 3), (358, 7, 34, 7, 0), (323, 7, 44, 6, 0), (306, 7, 67, 0, 1), (390, 8, 9, 8, 3), (385, 8, 15, 8, 0), (205, 8, 25, 3, 10), (167, 8, 30, 3, 0), (386, 8, 50, 8, 1), (388, 8, 53, 8, 2), (460, 9, 10, 9, 0), (461, 9, 19, 9, 1), (462, 9, 28, 9, 2), (463, 9, 32, 9, 3), (464, 9, 38, 9, 4), (465, 9, 45, 9, 5), (466, 9, 52, 9, 6), (467, 9, 61, 9, 7), (468, 9, 65, 9, 8), (256, 9, 77, 4, 2), (367, 9, 92, 7, 3), (253, 9, 96, 4, 0), (258, 9, 105, 4, 3), (360, 9, 108, 7, 0), (170, 9, 114, 3, 0), (174, 9, 117, 3, 1), (206, 9, 120, 3, 10), (362, 9, 133, 7, 1), (307, 9, 137, 0, 1), (365, 9, 142, 7, 2), (324, 9, 146, 6, 0), (183, 9, 157, 3, 4), (188, 9, 160, 3, 5), (195, 9, 166, 3, 7), (215, 9, 204, 3, 13), (218, 9, 266, 3, 14), (387, 9, 296, 8, 1), (389, 9, 299, 8, 2), (410, 9, 305, 2, 2), (408, 9, 308, 2, 1), (433, 9, 329, 1, 2), (435, 9, 332, 1, 3), (437, 9, 338, 1, 4), (439, 9, 341, 1, 5), (1471, 10, 25, 10, 0), (1473, 10, 29, 10, 2), (1474, 10, 33, 10, 3), (1475, 10, 35, 10, 4), (1476, 10, 38, 10, 5), (1477, 10, 41, 10, 6), (1478, 10, 44, 10, 7), (1479, 10, 47, 10, 8), (1480, 10, 50, 10, 9), (1481, 10, 52, 10, 10), (1482, 10, 55, 10, 11), (1483, 10, 58, 10, 12), (1493, 10, 61, 10, 22), (1494, 10, 65, 10, 23), (1495, 10, 68, 10, 24), (1496, 10, 71, 10, 25), (1497, 10, 74, 10, 26), (1498, 10, 76, 10, 27), (1499, 10, 79, 10, 28), (1500, 10, 82, 10, 29), (1501, 10, 85, 10, 30), (1506, 10, 88, 10, 35), (1507, 10, 91, 10, 36), (1508, 10, 94, 10, 37), (1509, 10, 97, 10, 38), (1510, 10, 100, 10, 39), (1511, 10, 103, 10, 40), (1512, 10, 106, 10, 41), (1513, 10, 109, 10, 42), (1514, 10, 112, 10, 43), (1515, 10, 115, 10, 44), (1516, 10, 118, 10, 45), (1522, 10, 121, 10, 51), (1523, 10, 124, 10, 52), (1524, 10, 127, 10, 53), (1525, 10, 130, 10, 54), (1526, 10, 133, 10, 55), (1472, 10, 136, 10, 1), (1484, 10, 143, 10, 13), (1486, 10, 146, 10, 15), (1485, 10, 149, 10, 14), (1489, 10, 156, 10, 18), (1487, 10, 159, 10, 16), (1488, 10, 169, 10, 17), (1490, 10, 182, 10, 19), (1491, 10, 185, 10, 20), (1492, 10, 188, 10, 21), (1502, 10, 283, 10, 31), (1503, 10, 285, 10, 32), (1504, 10, 288, 10, 33), (1505, 10, 291, 10, 34), (1519, 10, 294, 10, 48), (1517, 10, 440, 10, 46), (1518, 10, 456, 10, 47), (1520, 10, 463, 10, 49), (1521, 10, 466, 10, 50)]
def MLs : List (Nat × Nat × Nat × Nat) := [(1363, 1, 32, 29), (1364, 1, 42, 51), (1369, 1, 48, 7), (1387, 1, 59, 184), (1373, 1, 81, 40), (1407, 1, 97, 182), (1335, 2, 25, 12), (658, 2, 28, 46), (1339, 2, 40, 13), (648, 2, 66, 181), (649, 2, 71, 11), (653, 2, 75, 183), (161, 3, 45, 16), (999, 3, 67, 18), (1003, 3, 70, 183), (157, 4, 11, 15), (779, 4, 29, 16), (780, 4, 45, 22), (784, 4, 58, 24), (340, 5, 22, 28), (344, 5, 25, 183), (534, 5, 69, 40), (538, 5, 72, 36), (579, 5, 75, 44), (583, 5, 78, 34), (595, 5, 81, 32), (561, 5, 132, 181), (336, 7, 31, 26), (1011, 7, 38, 28), (1012, 7, 41, 1), (682, 7, 48, 29), (687, 7, 52, 2), (691, 7, 55, 50), (520, 7, 64, 3), (629, 8, 19, 45), (291, 9, 18, 15), (294, 9, 25, 52), (378, 9, 37, 26), (381, 9, 44, 57), (402, 9, 51, 9), (426, 9, 58, 4), (492, 9, 69, 21), (496, 9, 73, 25), (775, 9, 88, 23), (994, 9, 99, 17), (1007, 9, 102, 53), (1024, 9, 111, 45), (508, 9, 123, 30), (1025, 9, 127, 19), (1026, 9, 130, 27), (1056, 9, 154, 81), (1086, 9, 184, 84), (1108, 9, 198, 83), (1113, 9, 201, 37), (1117, 9, 207, 35), (512, 9, 212, 89), (516, 9, 215, 55), (530, 9, 218, 41), (605, 9, 240, 56), (1188, 9, 243, 85), (1193, 9, 246, 82), (1198, 9, 249, 61), (1202, 9, 253, 29), (1239, 9, 263, 31), (617, 9, 269, 39), (1264, 9, 272, 43), (1275, 9, 275, 181), (1283, 9, 280, 33), (1291, 9, 283, 40), (1292, 9, 286, 47), (625, 9, 289, 58), (1310, 9, 293, 59), (1331, 9, 302, 14), (644, 9, 311, 10), (666, 9, 314, 49), (1359, 9, 318, 8), (1382, 9, 322, 51), (1383, 9, 325, 6), (1403, 9, 335, 5), (1436, 9, 350, 42), (1452, 9, 353, 38), (678, 9, 356, 54), (1799, 10, 139, 138), (1660, 10, 152, 115), (1656, 10, 209, 157), (1652, 10, 270, 125), (1756, 10, 276, 164), (1760, 10, 279, 163), (1771, 10, 302, 169), (1775, 10, 305, 177), (1806, 10, 308, 160), (1810, 10, 311, 114), (1813, 10, 317, 165), (1867, 10, 335, 141), (1875, 10, 338, 153), (1879, 10, 341, 148), (1887, 10, 344, 122), (1863, 10, 347, 108), (1779, 10, 353, 120), (1795, 10, 357, 137), (1828, 10, 360, 139), (1855, 10, 370, 144), (1847, 10, 376, 149), (1851, 10, 379, 140), (1859, 10, 382, 133), (1905, 10, 387, 126), (1933, 10, 400, 172), (1994, 10, 411, 109), (2010, 10, 414, 161), (2019, 10, 430, 167), (2036, 10, 433, 116), (2050, 10, 443, 136), (2054, 10, 446, 166), (2062, 10, 449, 171), (2091, 10, 469, 118), (705, 16, 7, 87), (1020, 16, 15, 67), (1052, 16, 20, 63), (1082, 16, 24, 102), (1104, 16, 27, 97), (1125, 16, 30, 88), (1136, 16, 33, 90), (1147, 16, 36, 62), (1162, 16, 40, 98), (1173, 16, 43, 104), (1184, 16, 46, 103), (1206, 16, 50, 93), (1217, 16, 53, 77), (1228, 16, 56, 69), (1235, 16, 59, 70), (1246, 16, 62, 73), (1253, 16, 65, 64), (1260, 16, 68, 92), (1271, 16, 71, 101), (1279, 16, 74, 100), (1287, 16, 77, 75), (1299, 16, 80, 80), (1306, 16, 83, 66), (1327, 16, 86, 65), (1355, 16, 89, 106), (1399, 16, 92, 79), (1416, 16, 95, 76), (1432, 16, 99, 96), (143, 16, 102, 60), (1458, 16, 105, 107), (488, 16, 106, 72), (1644, 16, 110, 128), (701, 16, 111, 199), (1648, 16, 116, 146), (1640, 16, 117, 168), (500, 16, 121, 71), (1763, 16, 124, 127), (1016, 16, 125, 190), (1767, 16, 127, 119), (1049, 16, 128, 186), (1791, 16, 131, 111), (1079, 16, 132, 209), (1824, 16, 134, 175), (1101, 16, 135, 205), (1837, 16, 137, 159), (504, 16, 138, 68), (1842, 16, 141, 121), (1122, 16, 142, 200), (1892, 16, 144, 147), (1133, 16, 145, 201), (1897, 16, 147, 150), (1144, 16, 148, 185), (1901, 16, 150, 110), (1159, 16, 151, 206), (1917, 16, 153, 162), (1170, 16, 154, 211), (1925, 16, 156, 178), (601, 16, 157, 99), (1929, 16, 160, 170), (1181, 16, 161, 210), (1937, 16, 164, 176), (1203, 16, 165, 203), (1942, 16, 167, 154), (1214, 16, 168, 196), (1950, 16, 170, 134), (1225, 16, 171, 191), (1954, 16, 173, 123), (1232, 16, 174, 192), (1958, 16, 176, 124), (1243, 16, 177, 193), (1962, 16, 179, 129), (1250, 16, 180, 187), (1970, 16, 182, 112), (613, 16, 183, 86), (1974, 16, 186, 145), (1257, 16, 187, 202), (1978, 16, 189, 152), (1268, 16, 190, 208), (1982, 16, 192, 174), (1276, 16, 193, 207), (1986, 16, 195, 173), (1284, 16, 196, 194), (1990, 16, 198, 131), (1296, 16, 199, 198), (1998, 16, 201, 143), (621, 16, 202, 95), (2002, 16, 205, 156), (1303, 16, 206, 189), (2006, 16, 208, 117), (1324, 16, 209, 188), (2014, 16, 211, 113), (640, 16, 212, 105), (2032, 16, 215, 179), (662, 16, 216, 94), (2040, 16, 219, 155), (1352, 16, 220, 212), (2046, 16, 222, 180), (1396, 16, 223, 197), (2058, 16, 225, 142), (670, 16, 226, 74), (2066, 16, 229, 130), (1413, 16, 230, 195), (2070, 16, 233, 132), (1429, 16, 234, 204), (2078, 16, 236, 158), (674, 16, 237, 78), (2087, 16, 240, 135), (697, 16, 241, 91), (2094, 16, 245, 151)]
def CLs : List (Nat × Nat × Nat × Nat × Nat × Nat) := [(155, 156, 116, 4, 9, 3), (298, 299, 118, 7, 9, 0), (316, 317, 119, 7, 18, 6), (334, 335, 120, 7, 29, 5), (149, 150, 115, 9, 7, 4), (290, 156, 116, 9, 16, 3), (292, 293, 117, 9, 23, 7), (377, 335, 120, 9, 35, 5), (379, 380, 122, 9, 42, 8), (400, 401, 123, 9, 49, 2), (424, 425, 124, 9, 56, 1), (141, 142, 114, 16, 8, 9), (1456, 1457, 125, 16, 103, 10)]
def KCs : List (Nat × Nat × Nat × Int) := [(599, 5, 104, 99999), (1670, 10, 172, 100000), (1891, 10, 334, 99999), (564, 12, 265, 1431655765), (565, 12, 266, 858993459), (566, 12, 267, 252645135)]
def KLs : List (Nat × Nat × Nat × Int) := [(1832, 10, 363, 2), (1841, 10, 368, 3), (1846, 10, 374, 20), (1896, 10, 385, 9), (1941, 10, 403, 60), (2018, 10, 428, (-1)), (2044, 10, 436, 30), (2045, 10, 438, 99), (1410, 13, 314, 6148914691236517205), (1411, 13, 316, 3689348814741910323), (1412, 13, 318, 1085102592571150095)]
def ACs : List (Nat × Nat × Nat) := [(524, 0, 22), (998, 3, 61), (686, 5, 46), (695, 6, 22), (696, 7, 58)]
def OIs : List (Nat × Nat × Nat) := [(303, 0, 1), (429, 1, 3), (405, 2, 3), (160, 3, 3), (154, 4, 3), (339, 5, 3), (321, 6, 3), (297, 7, 3), (384, 8, 3), (146, 9, 1), (1461, 10, 3)]
def MNs : List (Nat × Nat × Nat) := [(527, 0, 31), (600, 5, 105), (1671, 10, 173)]
def MNp : Nat × Nat × Nat := (528, 132, 529)
def kdF (M : Nat) : Nat := bif Nat.blt M 106 then (bif Nat.blt M 53 then (bif Nat.blt M 26 then (bif Nat.blt M 13 then (bif Nat.blt M 6 then (bif Nat.blt M 3 then (bif Nat.blt M 1 then (2) else (bif Nat.blt M 2 then (1) else (1))) else (bif Nat.blt M 4 then (1) else (bif Nat.blt M 5 then (2) else (1)))) else (bif Nat.blt M 9 then (bif Nat.blt M 7 then (1) else (bif Nat.blt M 8 then (1) else (1))) else (bif Nat.blt M 11 then (bif Nat.blt M 10 then (2) else (1)) else (bif Nat.blt M 12 then (1) else (1))))) else (bif Nat.blt M 19 then (bif Nat.blt M 16 then (bif Nat.blt M 14 then (1) else (bif Nat.blt M 15 then (1) else (2))) else (bif Nat.blt M 17 then (1) else (bif Nat.blt M 18 then (1) else (1)))) else (bif Nat.blt M 22 then (bif Nat.blt M 20 then (1) else (bif Nat.blt M 21 then (2) else (1))) else (bif Nat.blt M 24 then (bif Nat.blt M 23 then (1) else (1)) else (bif Nat.blt M 25 then (1) else (1)))))) else (bif Nat.blt M 39 then (bif Nat.blt M 32 then (bif Nat.blt M 29 then (bif Nat.blt M 27 then (2) else (bif Nat.blt M 28 then (1) else (1))) else (bif Nat.blt M 30 then (1) else (bif Nat.blt M 31 then (1) else (1)))) else (bif Nat.blt M 35 then (bif Nat.blt M 33 then (1) else (bif Nat.blt M 34 then (1) else (1))) else (bif Nat.blt M 37 then (bif Nat.blt M 36 then (1) else (1)) else (bif Nat.blt M 38 then (1) else (1))))) else (bif Nat.blt M 46 then (bif Nat.blt M 42 then (bif Nat.blt M 40 then (1) else (bif Nat.blt M 41 then (1) else (1))) else (bif Nat.blt M 44 then (bif Nat.blt M 43 then (1) else (1)) else (bif Nat.blt M 45 then (1) else (1)))) else (bif Nat.blt M 49 then (bif Nat.blt M 47 then (1) else (bif Nat.blt M 48 then (1) else (2))) else (bif Nat.blt M 51 then (bif Nat.blt M 50 then (1) else (1)) else (bif Nat.blt M 52 then (1) else (2))))))) else (bif Nat.blt M 79 then (bif Nat.blt M 66 then (bif Nat.blt M 59 then (bif Nat.blt M 56 then (bif Nat.blt M 54 then (1) else (bif Nat.blt M 55 then (1) else (1))) else (bif Nat.blt M 57 then (1) else (bif Nat.blt M 58 then (2) else (1)))) else (bif Nat.blt M 62 then (bif Nat.blt M 60 then (1) else (bif Nat.blt M 61 then (2) else (1))) else (bif Nat.blt M 64 then (bif Nat.blt M 63 then (1) else (1)) else (bif Nat.blt M 65 then (1) else (1))))) else (bif Nat.blt M 72 then (bif Nat.blt M 69 then (bif Nat.blt M 67 then (1) else (bif Nat.blt M 68 then (1) else (1))) else (bif Nat.blt M 70 then (1) else (bif Nat.blt M 71 then (1) else (1)))) else (bif Nat.blt M 75 then (bif Nat.blt M 73 then (1) else (bif Nat.blt M 74 then (1) else (1))) else (bif Nat.blt M 77 then (bif Nat.blt M 76 then (1) else (1)) else (bif Nat.blt M 78 then (1) else (1)))))) else (bif Nat.blt M 92 then (bif Nat.blt M 85 then (bif Nat.blt M 82 then (bif Nat.blt M 80 then (1) else (bif Nat.blt M 81 then (1) else (1))) else (bif Nat.blt M 83 then (1) else (bif Nat.blt M 84 then (1) else (1)))) else (bif Nat.blt M 88 then (bif Nat.blt M 86 then (1) else (bif Nat.blt M 87 then (1) else (1))) else (bif Nat.blt M 90 then (bif Nat.blt M 89 then (1) else (1)) else (bif Nat.blt M 91 then (1) else (1))))) else (bif Nat.blt M 99 then (bif Nat.blt M 95 then (bif Nat.blt M 93 then (1) else (bif Nat.blt M 94 then (1) else (1))) else (bif Nat.blt M 97 then (bif Nat.blt M 96 then (1) else (1)) else (bif Nat.blt M 98 then (1) else (1)))) else (bif Nat.blt M 102 then (bif Nat.blt M 100 then (1) else (bif Nat.blt M 101 then (1) else (1))) else (bif Nat.blt M 104 then (bif Nat.blt M 103 then (1) else (1)) else (bif Nat.blt M 105 then (1) else (1)))))))) else (bif Nat.blt M 159 then (bif Nat.blt M 132 then (bif Nat.blt M 119 then (bif Nat.blt M 112 then (bif Nat.blt M 109 then (bif Nat.blt M 107 then (1) else (bif Nat.blt M 108 then (2) else (1))) else (bif Nat.blt M 110 then (1) else (bif Nat.blt M 111 then (1) else (1)))) else (bif Nat.blt M 115 then (bif Nat.blt M 113 then (1) else (bif Nat.blt M 114 then (1) else (0))) else (bif Nat.blt M 117 then (bif Nat.blt M 116 then (1) else (1)) else (bif Nat.blt M 118 then (1) else (0))))) else (bif Nat.blt M 125 then (bif Nat.blt M 122 then (bif Nat.blt M 120 then (1) else (bif Nat.blt M 121 then (1) else (1))) else (bif Nat.blt M 123 then (1) else (bif Nat.blt M 124 then (1) else (1)))) else (bif Nat.blt M 128 then (bif Nat.blt M 126 then (1) else (bif Nat.blt M 127 then (1) else (1))) else (bif Nat.blt M 130 then (bif Nat.blt M 129 then (1) else (1)) else (bif Nat.blt M 131 then (1) else (1)))))) else (bif Nat.blt M 145 then (bif Nat.blt M 138 then (bif Nat.blt M 135 then (bif Nat.blt M 133 then (1) else (bif Nat.blt M 134 then (1) else (1))) else (bif Nat.blt M 136 then (1) else (bif Nat.blt M 137 then (1) else (1)))) else (bif Nat.blt M 141 then (bif Nat.blt M 139 then (0) else (bif Nat.blt M 140 then (1) else (1))) else (bif Nat.blt M 143 then (bif Nat.blt M 142 then (1) else (1)) else (bif Nat.blt M 144 then (1) else (1))))) else (bif Nat.blt M 152 then (bif Nat.blt M 148 then (bif Nat.blt M 146 then (1) else (bif Nat.blt M 147 then (1) else (1))) else (bif Nat.blt M 150 then (bif Nat.blt M 149 then (1) else (1)) else (bif Nat.blt M 151 then (1) else (1)))) else (bif Nat.blt M 155 then (bif Nat.blt M 153 then (1) else (bif Nat.blt M 154 then (1) else (1))) else (bif Nat.blt M 157 then (bif Nat.blt M 156 then (1) else (1)) else (bif Nat.blt M 158 then (1) else (1))))))) else (bif Nat.blt M 186 then (bif Nat.blt M 172 then (bif Nat.blt M 165 then (bif Nat.blt M 162 then (bif Nat.blt M 160 then (1) else (bif Nat.blt M 161 then (1) else (1))) else (bif Nat.blt M 163 then (1) else (bif Nat.blt M 164 then (0) else (1)))) else (bif Nat.blt M 168 then (bif Nat.blt M 166 then (1) else (bif Nat.blt M 167 then (1) else (1))) else (bif Nat.blt M 170 then (bif Nat.blt M 169 then (1) else (1)) else (bif Nat.blt M 171 then (1) else (1))))) else (bif Nat.blt M 179 then (bif Nat.blt M 175 then (bif Nat.blt M 173 then (1) else (bif Nat.blt M 174 then (1) else (1))) else (bif Nat.blt M 177 then (bif Nat.blt M 176 then (1) else (1)) else (bif Nat.blt M 178 then (1) else (1)))) else (bif Nat.blt M 182 then (bif Nat.blt M 180 then (1) else (bif Nat.blt M 181 then (1) else (0))) else (bif Nat.blt M 184 then (bif Nat.blt M 183 then (0) else (0)) else (bif Nat.blt M 185 then (0) else (0)))))) else (bif Nat.blt M 199 then (bif Nat.blt M 192 then (bif Nat.blt M 189 then (bif Nat.blt M 187 then (0) else (bif Nat.blt M 188 then (0) else (0))) else (bif Nat.blt M 190 then (0) else (bif Nat.blt M 191 then (0) else (0)))) else (bif Nat.blt M 195 then (bif Nat.blt M 193 then (0) else (bif Nat.blt M 194 then (0) else (0))) else (bif Nat.blt M 197 then (bif Nat.blt M 196 then (0) else (0)) else (bif Nat.blt M 198 then (0) else (0))))) else (bif Nat.blt M 206 then (bif Nat.blt M 202 then (bif Nat.blt M 200 then (0) else (bif Nat.blt M 201 then (0) else (0))) else (bif Nat.blt M 204 then (bif Nat.blt M 203 then (0) else (0)) else (bif Nat.blt M 205 then (0) else (0)))) else (bif Nat.blt M 209 then (bif Nat.blt M 207 then (0) else (bif Nat.blt M 208 then (0) else (0))) else (bif Nat.blt M 211 then (bif Nat.blt M 210 then (0) else (0)) else (bif Nat.blt M 212 then (0) else (0))))))))
def mpF (M : Nat) : Nat × Nat × Nat × Nat := bif Nat.blt M 106 then (bif Nat.blt M 53 then (bif Nat.blt M 26 then (bif Nat.blt M 13 then (bif Nat.blt M 6 then (bif Nat.blt M 3 then (bif Nat.blt M 1 then ((302, 118, 301, 0)) else (bif Nat.blt M 2 then ((1015, 118, 1013, 1014)) else ((690, 118, 688, 689)))) else (bif Nat.blt M 4 then ((523, 118, 521, 522)) else (bif Nat.blt M 5 then ((428, 124, 427, 0)) else ((1406, 124, 1404, 1405))))) else (bif Nat.blt M 9 then (bif Nat.blt M 7 then ((1386, 124, 1384, 1385)) else (bif Nat.blt M 8 then ((1372, 124, 1371, 47)) else ((1362, 124, 1360, 1361)))) else (bif Nat.blt M 11 then (bif Nat.blt M 10 then ((404, 123, 403, 0)) else ((647, 123, 645, 646))) else (bif Nat.blt M 12 then ((652, 123, 651, 11)) else ((1338, 123, 1337, 43)))))) else (bif Nat.blt M 19 then (bif Nat.blt M 16 then (bif Nat.blt M 14 then ((1342, 123, 1341, 44)) else (bif Nat.blt M 15 then ((1334, 123, 1332, 1333)) else ((159, 116, 158, 0)))) else (bif Nat.blt M 17 then ((164, 116, 162, 163)) else (bif Nat.blt M 18 then ((997, 116, 995, 996)) else ((1002, 116, 1001, 35))))) else (bif Nat.blt M 22 then (bif Nat.blt M 20 then ((553, 116, 551, 552)) else (bif Nat.blt M 21 then ((153, 115, 152, 0)) else ((495, 115, 493, 494)))) else (bif Nat.blt M 24 then (bif Nat.blt M 23 then ((783, 115, 782, 13)) else ((778, 115, 776, 777))) else (bif Nat.blt M 25 then ((787, 115, 786, 14)) else ((499, 115, 497, 498))))))) else (bif Nat.blt M 39 then (bif Nat.blt M 32 then (bif Nat.blt M 29 then (bif Nat.blt M 27 then ((338, 120, 337, 0)) else (bif Nat.blt M 28 then ((1029, 120, 1027, 1028)) else ((343, 120, 341, 342)))) else (bif Nat.blt M 30 then ((685, 120, 683, 684)) else (bif Nat.blt M 31 then ((511, 120, 509, 510)) else ((1242, 120, 1240, 1241))))) else (bif Nat.blt M 35 then (bif Nat.blt M 33 then ((598, 120, 597, 9)) else (bif Nat.blt M 34 then ((570, 120, 568, 569)) else ((586, 120, 585, 6)))) else (bif Nat.blt M 37 then (bif Nat.blt M 36 then ((1120, 120, 1118, 1119)) else ((541, 120, 540, 1))) else (bif Nat.blt M 38 then ((1116, 120, 1114, 1115)) else ((1455, 120, 1453, 1454)))))) else (bif Nat.blt M 46 then (bif Nat.blt M 42 then (bif Nat.blt M 40 then ((620, 120, 618, 619)) else (bif Nat.blt M 41 then ((537, 120, 535, 536)) else ((533, 120, 531, 532)))) else (bif Nat.blt M 44 then (bif Nat.blt M 43 then ((1439, 120, 1437, 1438)) else ((1267, 120, 1265, 1266))) else (bif Nat.blt M 45 then ((582, 120, 581, 5)) else ((632, 120, 630, 631))))) else (bif Nat.blt M 49 then (bif Nat.blt M 47 then ((661, 120, 659, 660)) else (bif Nat.blt M 48 then ((1295, 120, 1293, 1294)) else ((320, 119, 319, 0)))) else (bif Nat.blt M 51 then (bif Nat.blt M 50 then ((669, 119, 667, 668)) else ((694, 119, 692, 693))) else (bif Nat.blt M 52 then ((1367, 119, 1365, 1366)) else ((296, 117, 295, 0)))))))) else (bif Nat.blt M 79 then (bif Nat.blt M 66 then (bif Nat.blt M 59 then (bif Nat.blt M 56 then (bif Nat.blt M 54 then ((1010, 117, 1008, 1009)) else (bif Nat.blt M 55 then ((681, 117, 679, 680)) else ((519, 117, 517, 518)))) else (bif Nat.blt M 57 then ((608, 117, 606, 607)) else (bif Nat.blt M 58 then ((383, 122, 382, 0)) else ((628, 122, 626, 627))))) else (bif Nat.blt M 62 then (bif Nat.blt M 60 then ((1313, 122, 1311, 1312)) else (bif Nat.blt M 61 then ((145, 114, 144, 0)) else ((1201, 114, 1200, 41)))) else (bif Nat.blt M 64 then (bif Nat.blt M 63 then ((1150, 114, 1148, 1149)) else ((1055, 114, 1053, 1054))) else (bif Nat.blt M 65 then ((1256, 114, 1254, 1255)) else ((1330, 114, 1328, 1329)))))) else (bif Nat.blt M 72 then (bif Nat.blt M 69 then (bif Nat.blt M 67 then ((1309, 114, 1307, 1308)) else (bif Nat.blt M 68 then ((1023, 114, 1021, 1022)) else ((507, 114, 505, 506)))) else (bif Nat.blt M 70 then ((1231, 114, 1229, 1230)) else (bif Nat.blt M 71 then ((1238, 114, 1236, 1237)) else ((503, 114, 501, 502))))) else (bif Nat.blt M 75 then (bif Nat.blt M 73 then ((491, 114, 489, 490)) else (bif Nat.blt M 74 then ((1249, 114, 1247, 1248)) else ((673, 114, 671, 672)))) else (bif Nat.blt M 77 then (bif Nat.blt M 76 then ((1290, 114, 1288, 1289)) else ((1419, 114, 1417, 1418))) else (bif Nat.blt M 78 then ((1220, 114, 1218, 1219)) else ((677, 114, 675, 676))))))) else (bif Nat.blt M 92 then (bif Nat.blt M 85 then (bif Nat.blt M 82 then (bif Nat.blt M 80 then ((1402, 114, 1400, 1401)) else (bif Nat.blt M 81 then ((1302, 114, 1300, 1301)) else ((1059, 114, 1058, 36)))) else (bif Nat.blt M 83 then ((1196, 114, 1195, 40)) else (bif Nat.blt M 84 then ((1111, 114, 1110, 38)) else ((1089, 114, 1088, 37))))) else (bif Nat.blt M 88 then (bif Nat.blt M 86 then ((1191, 114, 1190, 39)) else (bif Nat.blt M 87 then ((616, 114, 614, 615)) else ((708, 114, 706, 707)))) else (bif Nat.blt M 90 then (bif Nat.blt M 89 then ((1128, 114, 1126, 1127)) else ((515, 114, 514, 0))) else (bif Nat.blt M 91 then ((1139, 114, 1137, 1138)) else ((700, 114, 698, 699)))))) else (bif Nat.blt M 99 then (bif Nat.blt M 95 then (bif Nat.blt M 93 then ((1263, 114, 1261, 1262)) else (bif Nat.blt M 94 then ((1209, 114, 1207, 1208)) else ((665, 114, 663, 664)))) else (bif Nat.blt M 97 then (bif Nat.blt M 96 then ((624, 114, 622, 623)) else ((1435, 114, 1433, 1434))) else (bif Nat.blt M 98 then ((1107, 114, 1105, 1106)) else ((1165, 114, 1163, 1164))))) else (bif Nat.blt M 102 then (bif Nat.blt M 100 then ((604, 114, 602, 603)) else (bif Nat.blt M 101 then ((1282, 114, 1280, 1281)) else ((1274, 114, 1272, 1273)))) else (bif Nat.blt M 104 then (bif Nat.blt M 103 then ((1085, 114, 1083, 1084)) else ((1187, 114, 1185, 1186))) else (bif Nat.blt M 105 then ((1176, 114, 1174, 1175)) else ((643, 114, 641, 642))))))))) else (bif Nat.blt M 159 then (bif Nat.blt M 132 then (bif Nat.blt M 119 then (bif Nat.blt M 112 then (bif Nat.blt M 109 then (bif Nat.blt M 107 then ((1358, 114, 1356, 1357)) else (bif Nat.blt M 108 then ((1460, 125, 1459, 0)) else ((1866, 125, 1865, 88)))) else (bif Nat.blt M 110 then ((1997, 125, 1996, 102)) else (bif Nat.blt M 111 then ((1904, 125, 1902, 1903)) else ((1794, 125, 1792, 1793))))) else (bif Nat.blt M 115 then (bif Nat.blt M 113 then ((1973, 125, 1971, 1972)) else (bif Nat.blt M 114 then ((2017, 125, 2015, 2016)) else ((1812, 125, 1811, 0)))) else (bif Nat.blt M 117 then (bif Nat.blt M 116 then ((1663, 125, 1662, 53)) else ((2039, 125, 2038, 107))) else (bif Nat.blt M 118 then ((2009, 125, 2007, 2008)) else ((2093, 125, 2092, 0)))))) else (bif Nat.blt M 125 then (bif Nat.blt M 122 then (bif Nat.blt M 120 then ((1770, 125, 1768, 1769)) else (bif Nat.blt M 121 then ((1782, 125, 1781, 75)) else ((1845, 125, 1843, 1844)))) else (bif Nat.blt M 123 then ((1890, 125, 1889, 94)) else (bif Nat.blt M 124 then ((1957, 125, 1955, 1956)) else ((1961, 125, 1959, 1960))))) else (bif Nat.blt M 128 then (bif Nat.blt M 126 then ((1655, 125, 1654, 51)) else (bif Nat.blt M 127 then ((1908, 125, 1907, 95)) else ((1766, 125, 1764, 1765)))) else (bif Nat.blt M 130 then (bif Nat.blt M 129 then ((1647, 125, 1645, 1646)) else ((1965, 125, 1963, 1964))) else (bif Nat.blt M 131 then ((2069, 125, 2067, 2068)) else ((1993, 125, 1991, 1992))))))) else (bif Nat.blt M 145 then (bif Nat.blt M 138 then (bif Nat.blt M 135 then (bif Nat.blt M 133 then ((2073, 125, 2071, 2072)) else (bif Nat.blt M 134 then ((1862, 125, 1861, 87)) else ((1953, 125, 1951, 1952)))) else (bif Nat.blt M 136 then ((2090, 125, 2088, 2089)) else (bif Nat.blt M 137 then ((2053, 125, 2052, 108)) else ((1798, 125, 1797, 77))))) else (bif Nat.blt M 141 then (bif Nat.blt M 139 then ((1801, 125, 1800, 0)) else (bif Nat.blt M 140 then ((1831, 125, 1830, 82)) else ((1854, 125, 1853, 85)))) else (bif Nat.blt M 143 then (bif Nat.blt M 142 then ((1870, 125, 1869, 89)) else ((2061, 125, 2059, 2060))) else (bif Nat.blt M 144 then ((2001, 125, 1999, 2000)) else ((1858, 125, 1857, 86)))))) else (bif Nat.blt M 152 then (bif Nat.blt M 148 then (bif Nat.blt M 146 then ((1977, 125, 1975, 1976)) else (bif Nat.blt M 147 then ((1651, 125, 1649, 1650)) else ((1895, 125, 1893, 1894)))) else (bif Nat.blt M 150 then (bif Nat.blt M 149 then ((1882, 125, 1881, 92)) else ((1850, 125, 1849, 84))) else (bif Nat.blt M 151 then ((1900, 125, 1898, 1899)) else ((2097, 125, 2095, 2096))))) else (bif Nat.blt M 155 then (bif Nat.blt M 153 then ((1981, 125, 1979, 1980)) else (bif Nat.blt M 154 then ((1878, 125, 1877, 91)) else ((1945, 125, 1943, 1944)))) else (bif Nat.blt M 157 then (bif Nat.blt M 156 then ((2043, 125, 2041, 2042)) else ((2005, 125, 2003, 2004))) else (bif Nat.blt M 158 then ((1659, 125, 1658, 52)) else ((2081, 125, 2079, 2080)))))))) else (bif Nat.blt M 186 then (bif Nat.blt M 172 then (bif Nat.blt M 165 then (bif Nat.blt M 162 then (bif Nat.blt M 160 then ((1840, 125, 1838, 1839)) else (bif Nat.blt M 161 then ((1809, 125, 1808, 79)) else ((2013, 125, 2012, 103)))) else (bif Nat.blt M 163 then ((1920, 125, 1918, 1919)) else (bif Nat.blt M 164 then ((1762, 125, 1761, 0)) else ((1759, 125, 1758, 72))))) else (bif Nat.blt M 168 then (bif Nat.blt M 166 then ((1816, 125, 1815, 80)) else (bif Nat.blt M 167 then ((2057, 125, 2056, 109)) else ((2022, 125, 2021, 104)))) else (bif Nat.blt M 170 then (bif Nat.blt M 169 then ((1643, 125, 1641, 1642)) else ((1774, 125, 1773, 73))) else (bif Nat.blt M 171 then ((1932, 125, 1930, 1931)) else ((2065, 125, 2064, 110)))))) else (bif Nat.blt M 179 then (bif Nat.blt M 175 then (bif Nat.blt M 173 then ((1936, 125, 1935, 99)) else (bif Nat.blt M 174 then ((1989, 125, 1987, 1988)) else ((1985, 125, 1983, 1984)))) else (bif Nat.blt M 177 then (bif Nat.blt M 176 then ((1827, 125, 1825, 1826)) else ((1940, 125, 1938, 1939))) else (bif Nat.blt M 178 then ((1778, 125, 1777, 74)) else ((1928, 125, 1926, 1927))))) else (bif Nat.blt M 182 then (bif Nat.blt M 180 then ((2035, 125, 2033, 2034)) else (bif Nat.blt M 181 then ((2049, 125, 2047, 2048)) else ((563, 139, 562, 0)))) else (bif Nat.blt M 184 then (bif Nat.blt M 183 then ((1409, 140, 1408, 0)) else ((346, 121, 345, 0))) else (bif Nat.blt M 185 then ((1389, 121, 1388, 0)) else ((1146, 113, 1145, 0))))))) else (bif Nat.blt M 199 then (bif Nat.blt M 192 then (bif Nat.blt M 189 then (bif Nat.blt M 187 then ((1051, 113, 1050, 0)) else (bif Nat.blt M 188 then ((1252, 113, 1251, 0)) else ((1326, 113, 1325, 0)))) else (bif Nat.blt M 190 then ((1305, 113, 1304, 0)) else (bif Nat.blt M 191 then ((1018, 113, 1017, 0)) else ((1227, 113, 1226, 0))))) else (bif Nat.blt M 195 then (bif Nat.blt M 193 then ((1234, 113, 1233, 0)) else (bif Nat.blt M 194 then ((1245, 113, 1244, 0)) else ((1286, 113, 1285, 0)))) else (bif Nat.blt M 197 then (bif Nat.blt M 196 then ((1415, 113, 1414, 0)) else ((1216, 113, 1215, 0))) else (bif Nat.blt M 198 then ((1398, 113, 1397, 0)) else ((1298, 113, 1297, 0)))))) else (bif Nat.blt M 206 then (bif Nat.blt M 202 then (bif Nat.blt M 200 then ((703, 113, 702, 0)) else (bif Nat.blt M 201 then ((1124, 113, 1123, 0)) else ((1135, 113, 1134, 0)))) else (bif Nat.blt M 204 then (bif Nat.blt M 203 then ((1259, 113, 1258, 0)) else ((1205, 113, 1204, 0))) else (bif Nat.blt M 205 then ((1431, 113, 1430, 0)) else ((1103, 113, 1102, 0))))) else (bif Nat.blt M 209 then (bif Nat.blt M 207 then ((1161, 113, 1160, 0)) else (bif Nat.blt M 208 then ((1278, 113, 1277, 0)) else ((1270, 113, 1269, 0)))) else (bif Nat.blt M 211 then (bif Nat.blt M 210 then ((1081, 113, 1080, 0)) else ((1183, 113, 1182, 0))) else (bif Nat.blt M 212 then ((1172, 113, 1171, 0)) else ((1354, 113, 1353, 0)))))))))
def TSs : List (Nat × Nat × Nat × Nat × String) := [(1, 81, 83, 85, "the tape has not so many bytes"), (1, 81, 344, 85, "these two can't play"), (1, 81, 367, 85, "not so many days"), (2, 149, 151, 153, "no such count"), (2, 149, 182, 153, "a balcony has no such thing"), (2, 149, 196, 153, "a wall has no such thing"), (2, 149, 210, 153, "a street has no such thing"), (2, 149, 359, 153, "no such balcony"), (2, 149, 361, 153, "no such wall"), (2, 149, 363, 153, "no such street"), (2, 149, 365, 153, "no such thing is told")]
def strs : List (String × Nat × String) := TSs.map (fun q => (RX10, q.2.2.1, q.2.2.2.2)) ++ [(RX11, 11, "times"), (RX11, 13, "pots"), (RX11, 15, "iron"), (RX11, 17, "gone"), (RX11, 19, "beside"), (RX11, 21, "free"), (RX11, 23, "day")]
def nmsT : List String := ["java/lang/Exception"]
def AR : Nat × Nat × Nat × Nat × Nat × Nat × Nat × Nat := (251, 459, 289, 526, 525, 136, 147, 148)
def TP : Nat × Nat × Nat × Nat := (709, 129, 1033, 137)
def CKs : List (Nat × Nat × Nat) := [(704, 13, 1), (1019, 18, 2)]
def Zft (nb : Nat) (f : Nat → Option eQ) : Prop := ∀ pc, Nat.blt pc nb = false → f pc = none
theorem Zc {b : Bool} {n1 n2 : Nat} {f1 f2 : Nat → Option eQ} (h1 : Zft n1 f1) (h2 : Zft n2 f2) : Zft (bif b then n1 else n2) (bif b then f1 else f2) := by cases b; exact h2; exact h1
theorem zf_0 : Zft 14 ft_0 := fun pc h => by unfold ft_0; rw [h]; rfl
theorem zf_1 : Zft 11 ft_1 := fun pc h => by unfold ft_1; rw [h]; rfl
theorem zf_2 : Zft 35 ft_2 := fun pc h => by unfold ft_2; rw [h]; rfl
theorem zf_3 : Zft 62 ft_3 := fun pc h => by unfold ft_3; rw [h]; rfl
theorem zf_4 : Zft 31 ft_4 := fun pc h => by unfold ft_4; rw [h]; rfl
theorem zf_5 : Zft 69 ft_5 := fun pc h => by unfold ft_5; rw [h]; rfl
theorem zf_6 : Zft 112 ft_6 := fun pc h => by unfold ft_6; rw [h]; rfl
theorem zf_7 : Zft 57 ft_7 := fun pc h => by unfold ft_7; rw [h]; rfl
theorem zf_8 : Zft 27 ft_8 := fun pc h => by unfold ft_8; rw [h]; rfl
theorem zf_9 : Zft 34 ft_9 := fun pc h => by unfold ft_9; rw [h]; rfl
theorem zf_10 : Zft 63 ft_10 := fun pc h => by unfold ft_10; rw [h]; rfl
theorem zf_11 : Zft 151 ft_11 := fun pc h => by unfold ft_11; rw [h]; rfl
theorem zf_12 : Zft 81 ft_12 := fun pc h => by unfold ft_12; rw [h]; rfl
theorem zf_13 : Zft 99 ft_13 := fun pc h => by unfold ft_13; rw [h]; rfl
theorem zf_14 : Zft 137 ft_14 := fun pc h => by unfold ft_14; rw [h]; rfl
theorem zf_15 : Zft 96 ft_15 := fun pc h => by unfold ft_15; rw [h]; rfl
theorem zf_16 : Zft 43 ft_16 := fun pc h => by unfold ft_16; rw [h]; rfl
theorem zf_17 : Zft 173 ft_17 := fun pc h => by unfold ft_17; rw [h]; rfl
theorem zf_18 : Zft 90 ft_18 := fun pc h => by unfold ft_18; rw [h]; rfl
theorem zf_19 : Zft 23 ft_19 := fun pc h => by unfold ft_19; rw [h]; rfl
theorem zf_20 : Zft 30 ft_20 := fun pc h => by unfold ft_20; rw [h]; rfl
theorem zf_21 : Zft 19 ft_21 := fun pc h => by unfold ft_21; rw [h]; rfl
theorem zf_22 : Zft 182 ft_22 := fun pc h => by unfold ft_22; rw [h]; rfl
theorem zf_23 : Zft 79 ft_23 := fun pc h => by unfold ft_23; rw [h]; rfl
theorem zf_24 : Zft 23 ft_24 := fun pc h => by unfold ft_24; rw [h]; rfl
theorem zf_25 : Zft 47 ft_25 := fun pc h => by unfold ft_25; rw [h]; rfl
theorem zf_26 : Zft 30 ft_26 := fun pc h => by unfold ft_26; rw [h]; rfl
theorem zf_27 : Zft 127 ft_27 := fun pc h => by unfold ft_27; rw [h]; rfl
theorem zf_28 : Zft 114 ft_28 := fun pc h => by unfold ft_28; rw [h]; rfl
theorem zf_29 : Zft 16 ft_29 := fun pc h => by unfold ft_29; rw [h]; rfl
theorem zf_30 : Zft 7 ft_30 := fun pc h => by unfold ft_30; rw [h]; rfl
theorem zf_31 : Zft 41 ft_31 := fun pc h => by unfold ft_31; rw [h]; rfl
theorem zf_32 : Zft 95 ft_32 := fun pc h => by unfold ft_32; rw [h]; rfl
theorem zf_33 : Zft 22 ft_33 := fun pc h => by unfold ft_33; rw [h]; rfl
theorem zf_34 : Zft 65 ft_34 := fun pc h => by unfold ft_34; rw [h]; rfl
theorem zf_35 : Zft 36 ft_35 := fun pc h => by unfold ft_35; rw [h]; rfl
theorem zf_36 : Zft 72 ft_36 := fun pc h => by unfold ft_36; rw [h]; rfl
theorem zf_37 : Zft 9 ft_37 := fun pc h => by unfold ft_37; rw [h]; rfl
theorem zf_38 : Zft 28 ft_38 := fun pc h => by unfold ft_38; rw [h]; rfl
theorem zf_39 : Zft 57 ft_39 := fun pc h => by unfold ft_39; rw [h]; rfl
theorem zf_40 : Zft 52 ft_40 := fun pc h => by unfold ft_40; rw [h]; rfl
theorem zf_41 : Zft 18 ft_41 := fun pc h => by unfold ft_41; rw [h]; rfl
theorem zf_42 : Zft 66 ft_42 := fun pc h => by unfold ft_42; rw [h]; rfl
theorem zf_43 : Zft 42 ft_43 := fun pc h => by unfold ft_43; rw [h]; rfl
theorem zf_44 : Zft 96 ft_44 := fun pc h => by unfold ft_44; rw [h]; rfl
theorem zf_45 : Zft 9 ft_45 := fun pc h => by unfold ft_45; rw [h]; rfl
theorem zf_46 : Zft 16 ft_46 := fun pc h => by unfold ft_46; rw [h]; rfl
theorem zf_47 : Zft 48 ft_47 := fun pc h => by unfold ft_47; rw [h]; rfl
theorem zf_48 : Zft 21 ft_48 := fun pc h => by unfold ft_48; rw [h]; rfl
theorem zf_49 : Zft 64 ft_49 := fun pc h => by unfold ft_49; rw [h]; rfl
theorem zf_50 : Zft 39 ft_50 := fun pc h => by unfold ft_50; rw [h]; rfl
theorem zf_51 : Zft 31 ft_51 := fun pc h => by unfold ft_51; rw [h]; rfl
theorem zf_52 : Zft 46 ft_52 := fun pc h => by unfold ft_52; rw [h]; rfl
theorem zf_53 : Zft 23 ft_53 := fun pc h => by unfold ft_53; rw [h]; rfl
theorem zf_54 : Zft 48 ft_54 := fun pc h => by unfold ft_54; rw [h]; rfl
theorem zf_55 : Zft 12 ft_55 := fun pc h => by unfold ft_55; rw [h]; rfl
theorem zf_56 : Zft 31 ft_56 := fun pc h => by unfold ft_56; rw [h]; rfl
theorem zf_57 : Zft 19 ft_57 := fun pc h => by unfold ft_57; rw [h]; rfl
theorem zf_58 : Zft 114 ft_58 := fun pc h => by unfold ft_58; rw [h]; rfl
theorem zf_59 : Zft 89 ft_59 := fun pc h => by unfold ft_59; rw [h]; rfl
theorem zf_60 : Zft 126 ft_60 := fun pc h => by unfold ft_60; rw [h]; rfl
theorem zf_61 : Zft 27 ft_61 := fun pc h => by unfold ft_61; rw [h]; rfl
theorem zf_62 : Zft 46 ft_62 := fun pc h => by unfold ft_62; rw [h]; rfl
theorem zf_63 : Zft 160 ft_63 := fun pc h => by unfold ft_63; rw [h]; rfl
theorem zf_64 : Zft 15 ft_64 := fun pc h => by unfold ft_64; rw [h]; rfl
theorem zf_65 : Zft 49 ft_65 := fun pc h => by unfold ft_65; rw [h]; rfl
theorem zf_66 : Zft 42 ft_66 := fun pc h => by unfold ft_66; rw [h]; rfl
theorem zf_67 : Zft 258 ft_67 := fun pc h => by unfold ft_67; rw [h]; rfl
theorem zf_68 : Zft 63 ft_68 := fun pc h => by unfold ft_68; rw [h]; rfl
theorem zf_69 : Zft 32 ft_69 := fun pc h => by unfold ft_69; rw [h]; rfl
theorem zf_70 : Zft 28 ft_70 := fun pc h => by unfold ft_70; rw [h]; rfl
theorem zf_71 : Zft 8 ft_71 := fun pc h => by unfold ft_71; rw [h]; rfl
theorem zf_72 : Zft 62 ft_72 := fun pc h => by unfold ft_72; rw [h]; rfl
theorem zf_73 : Zft 66 ft_73 := fun pc h => by unfold ft_73; rw [h]; rfl
theorem zf_74 : Zft 12 ft_74 := fun pc h => by unfold ft_74; rw [h]; rfl
theorem zf_75 : Zft 78 ft_75 := fun pc h => by unfold ft_75; rw [h]; rfl
theorem zf_76 : Zft 146 ft_76 := fun pc h => by unfold ft_76; rw [h]; rfl
theorem zf_77 : Zft 28 ft_77 := fun pc h => by unfold ft_77; rw [h]; rfl
theorem zf_78 : Zft 17 ft_78 := fun pc h => by unfold ft_78; rw [h]; rfl
theorem zf_79 : Zft 48 ft_79 := fun pc h => by unfold ft_79; rw [h]; rfl
theorem zf_80 : Zft 90 ft_80 := fun pc h => by unfold ft_80; rw [h]; rfl
theorem zf_81 : Zft 27 ft_81 := fun pc h => by unfold ft_81; rw [h]; rfl
theorem zf_82 : Zft 22 ft_82 := fun pc h => by unfold ft_82; rw [h]; rfl
theorem zf_83 : Zft 21 ft_83 := fun pc h => by unfold ft_83; rw [h]; rfl
theorem zf_84 : Zft 27 ft_84 := fun pc h => by unfold ft_84; rw [h]; rfl
theorem zf_85 : Zft 21 ft_85 := fun pc h => by unfold ft_85; rw [h]; rfl
theorem zf_86 : Zft 11 ft_86 := fun pc h => by unfold ft_86; rw [h]; rfl
theorem zf_87 : Zft 81 ft_87 := fun pc h => by unfold ft_87; rw [h]; rfl
theorem zf_88 : Zft 53 ft_88 := fun pc h => by unfold ft_88; rw [h]; rfl
theorem zf_89 : Zft 15 ft_89 := fun pc h => by unfold ft_89; rw [h]; rfl
theorem zf_90 : Zft 53 ft_90 := fun pc h => by unfold ft_90; rw [h]; rfl
theorem zf_91 : Zft 23 ft_91 := fun pc h => by unfold ft_91; rw [h]; rfl
theorem zf_92 : Zft 14 ft_92 := fun pc h => by unfold ft_92; rw [h]; rfl
theorem zf_93 : Zft 30 ft_93 := fun pc h => by unfold ft_93; rw [h]; rfl
theorem zf_94 : Zft 43 ft_94 := fun pc h => by unfold ft_94; rw [h]; rfl
theorem zf_95 : Zft 15 ft_95 := fun pc h => by unfold ft_95; rw [h]; rfl
theorem zf_96 : Zft 67 ft_96 := fun pc h => by unfold ft_96; rw [h]; rfl
theorem zf_97 : Zft 76 ft_97 := fun pc h => by unfold ft_97; rw [h]; rfl
theorem zf_98 : Zft 47 ft_98 := fun pc h => by unfold ft_98; rw [h]; rfl
theorem zf_99 : Zft 8 ft_99 := fun pc h => by unfold ft_99; rw [h]; rfl
theorem zf_100 : Zft 14 ft_100 := fun pc h => by unfold ft_100; rw [h]; rfl
theorem zf_101 : Zft 18 ft_101 := fun pc h => by unfold ft_101; rw [h]; rfl
theorem zf_102 : Zft 78 ft_102 := fun pc h => by unfold ft_102; rw [h]; rfl
theorem zf_103 : Zft 43 ft_103 := fun pc h => by unfold ft_103; rw [h]; rfl
theorem zf_104 : Zft 54 ft_104 := fun pc h => by unfold ft_104; rw [h]; rfl
theorem zf_105 : Zft 15 ft_105 := fun pc h => by unfold ft_105; rw [h]; rfl
theorem zf_106 : Zft 74 ft_106 := fun pc h => by unfold ft_106; rw [h]; rfl
theorem zf_107 : Zft 362 ft_107 := fun pc h => by unfold ft_107; rw [h]; rfl
theorem zf_108 : Zft 41 ft_108 := fun pc h => by unfold ft_108; rw [h]; rfl
theorem zf_109 : Zft 57 ft_109 := fun pc h => by unfold ft_109; rw [h]; rfl
theorem zf_110 : Zft 76 ft_110 := fun pc h => by unfold ft_110; rw [h]; rfl
theorem zf_111 : Zft 151 ft_111 := fun pc h => by unfold ft_111; rw [h]; rfl
theorem zf_112 : Zft 27 ft_112 := fun pc h => by unfold ft_112; rw [h]; rfl
theorem zf_113 : Zft 145 ft_113 := fun pc h => by unfold ft_113; rw [h]; rfl
theorem zf_114 : Zft 22 ft_114 := fun pc h => by unfold ft_114; rw [h]; rfl
theorem zf_115 : Zft 19 ft_115 := fun pc h => by unfold ft_115; rw [h]; rfl
theorem zf_116 : Zft 127 ft_116 := fun pc h => by unfold ft_116; rw [h]; rfl
theorem zf_117 : Zft 127 ft_117 := fun pc h => by unfold ft_117; rw [h]; rfl
theorem zf_118 : Zft 21 ft_118 := fun pc h => by unfold ft_118; rw [h]; rfl
theorem zf_119 : Zft 163 ft_119 := fun pc h => by unfold ft_119; rw [h]; rfl
theorem zf_120 : Zft 157 ft_120 := fun pc h => by unfold ft_120; rw [h]; rfl
theorem zf_121 : Zft 49 ft_121 := fun pc h => by unfold ft_121; rw [h]; rfl
theorem zf_122 : Zft 76 ft_122 := fun pc h => by unfold ft_122; rw [h]; rfl
theorem zf_123 : Zft 84 ft_123 := fun pc h => by unfold ft_123; rw [h]; rfl
theorem zf_124 : Zft 89 ft_124 := fun pc h => by unfold ft_124; rw [h]; rfl
theorem zf_125 : Zft 7 ft_125 := fun pc h => by unfold ft_125; rw [h]; rfl
theorem zf_126 : Zft 7 ft_126 := fun pc h => by unfold ft_126; rw [h]; rfl
theorem zf_127 : Zft 10 ft_127 := fun pc h => by unfold ft_127; rw [h]; rfl
theorem zf_128 : Zft 125 ft_128 := fun pc h => by unfold ft_128; rw [h]; rfl
theorem zf_129 : Zft 57 ft_129 := fun pc h => by unfold ft_129; rw [h]; rfl
theorem zf_130 : Zft 11 ft_130 := fun pc h => by unfold ft_130; rw [h]; rfl
theorem zf_131 : Zft 93 ft_131 := fun pc h => by unfold ft_131; rw [h]; rfl
theorem zf_132 : Zft 200 ft_132 := fun pc h => by unfold ft_132; rw [h]; rfl
theorem zf_133 : Zft 18 ft_133 := fun pc h => by unfold ft_133; rw [h]; rfl
theorem zf_134 : Zft 76 ft_134 := fun pc h => by unfold ft_134; rw [h]; rfl
theorem zf_135 : Zft 80 ft_135 := fun pc h => by unfold ft_135; rw [h]; rfl
theorem zf_136 : Zft 94 ft_136 := fun pc h => by unfold ft_136; rw [h]; rfl
theorem zf_137 : Zft 16 ft_137 := fun pc h => by unfold ft_137; rw [h]; rfl
theorem zf_138 : Zft 19 ft_138 := fun pc h => by unfold ft_138; rw [h]; rfl
theorem zf_139 : Zft 16 ft_139 := fun pc h => by unfold ft_139; rw [h]; rfl
theorem zf_140 : Zft 78 ft_140 := fun pc h => by unfold ft_140; rw [h]; rfl
theorem zf_141 : Zft 82 ft_141 := fun pc h => by unfold ft_141; rw [h]; rfl
theorem zf_142 : Zft 170 ft_142 := fun pc h => by unfold ft_142; rw [h]; rfl
theorem zf_143 : Zft 98 ft_143 := fun pc h => by unfold ft_143; rw [h]; rfl
theorem zf_144 : Zft 177 ft_144 := fun pc h => by unfold ft_144; rw [h]; rfl
theorem zf_145 : Zft 11 ft_145 := fun pc h => by unfold ft_145; rw [h]; rfl
theorem zf_146 : Zft 165 ft_146 := fun pc h => by unfold ft_146; rw [h]; rfl
theorem zf_147 : Zft 57 ft_147 := fun pc h => by unfold ft_147; rw [h]; rfl
theorem zf_148 : Zft 61 ft_148 := fun pc h => by unfold ft_148; rw [h]; rfl
theorem zf_149 : Zft 12 ft_149 := fun pc h => by unfold ft_149; rw [h]; rfl
theorem zf_150 : Zft 57 ft_150 := fun pc h => by unfold ft_150; rw [h]; rfl
theorem zf_151 : Zft 85 ft_151 := fun pc h => by unfold ft_151; rw [h]; rfl
theorem zf_152 : Zft 92 ft_152 := fun pc h => by unfold ft_152; rw [h]; rfl
theorem zf_153 : Zft 90 ft_153 := fun pc h => by unfold ft_153; rw [h]; rfl
theorem zf_154 : Zft 27 ft_154 := fun pc h => by unfold ft_154; rw [h]; rfl
theorem zf_155 : Zft 79 ft_155 := fun pc h => by unfold ft_155; rw [h]; rfl
theorem zf_156 : Zft 284 ft_156 := fun pc h => by unfold ft_156; rw [h]; rfl
theorem zf_157 : Zft 221 ft_157 := fun pc h => by unfold ft_157; rw [h]; rfl
theorem zf_158 : Zft 201 ft_158 := fun pc h => by unfold ft_158; rw [h]; rfl
theorem zf_159 : Zft 86 ft_159 := fun pc h => by unfold ft_159; rw [h]; rfl
theorem zf_160 : Zft 42 ft_160 := fun pc h => by unfold ft_160; rw [h]; rfl
theorem zf_161 : Zft 60 ft_161 := fun pc h => by unfold ft_161; rw [h]; rfl
theorem zf_162 : Zft 45 ft_162 := fun pc h => by unfold ft_162; rw [h]; rfl
theorem zf_163 : Zft 28 ft_163 := fun pc h => by unfold ft_163; rw [h]; rfl
theorem zf_164 : Zft 208 ft_164 := fun pc h => by unfold ft_164; rw [h]; rfl
theorem zf_165 : Zft 47 ft_165 := fun pc h => by unfold ft_165; rw [h]; rfl
theorem zf_166 : Zft 99 ft_166 := fun pc h => by unfold ft_166; rw [h]; rfl
theorem zf_167 : Zft 141 ft_167 := fun pc h => by unfold ft_167; rw [h]; rfl
theorem zf_168 : Zft 5 ft_168 := fun pc h => by unfold ft_168; rw [h]; rfl
theorem zf_169 : Zft 27 ft_169 := fun pc h => by unfold ft_169; rw [h]; rfl
theorem zf_170 : Zft 44 ft_170 := fun pc h => by unfold ft_170; rw [h]; rfl
theorem zf_171 : Zft 89 ft_171 := fun pc h => by unfold ft_171; rw [h]; rfl
theorem zf_172 : Zft 177 ft_172 := fun pc h => by unfold ft_172; rw [h]; rfl
theorem zf_173 : Zft 66 ft_173 := fun pc h => by unfold ft_173; rw [h]; rfl
theorem zf_174 : Zft 57 ft_174 := fun pc h => by unfold ft_174; rw [h]; rfl
theorem zf_175 : Zft 64 ft_175 := fun pc h => by unfold ft_175; rw [h]; rfl
theorem zf_176 : Zft 93 ft_176 := fun pc h => by unfold ft_176; rw [h]; rfl
theorem zf_177 : Zft 42 ft_177 := fun pc h => by unfold ft_177; rw [h]; rfl
theorem zf_178 : Zft 57 ft_178 := fun pc h => by unfold ft_178; rw [h]; rfl
theorem zf_179 : Zft 55 ft_179 := fun pc h => by unfold ft_179; rw [h]; rfl
theorem zf_180 : Zft 74 ft_180 := fun pc h => by unfold ft_180; rw [h]; rfl
theorem zf_181 : Zft 53 ft_181 := fun pc h => by unfold ft_181; rw [h]; rfl
theorem zf_182 : Zft 61 ft_182 := fun pc h => by unfold ft_182; rw [h]; rfl
theorem zf_183 : Zft 21 ft_183 := fun pc h => by unfold ft_183; rw [h]; rfl
theorem zf_184 : Zft 23 ft_184 := fun pc h => by unfold ft_184; rw [h]; rfl
theorem zf_185 : Zft 24 ft_185 := fun pc h => by unfold ft_185; rw [h]; rfl
theorem zf_186 : Zft 19 ft_186 := fun pc h => by unfold ft_186; rw [h]; rfl
theorem zf_187 : Zft 17 ft_187 := fun pc h => by unfold ft_187; rw [h]; rfl
theorem zf_188 : Zft 17 ft_188 := fun pc h => by unfold ft_188; rw [h]; rfl
theorem zf_189 : Zft 17 ft_189 := fun pc h => by unfold ft_189; rw [h]; rfl
theorem zf_190 : Zft 17 ft_190 := fun pc h => by unfold ft_190; rw [h]; rfl
theorem zf_191 : Zft 23 ft_191 := fun pc h => by unfold ft_191; rw [h]; rfl
theorem zf_192 : Zft 17 ft_192 := fun pc h => by unfold ft_192; rw [h]; rfl
theorem zf_193 : Zft 17 ft_193 := fun pc h => by unfold ft_193; rw [h]; rfl
theorem zf_194 : Zft 17 ft_194 := fun pc h => by unfold ft_194; rw [h]; rfl
theorem zf_195 : Zft 27 ft_195 := fun pc h => by unfold ft_195; rw [h]; rfl
theorem zf_196 : Zft 17 ft_196 := fun pc h => by unfold ft_196; rw [h]; rfl
theorem zf_197 : Zft 17 ft_197 := fun pc h => by unfold ft_197; rw [h]; rfl
theorem zf_198 : Zft 17 ft_198 := fun pc h => by unfold ft_198; rw [h]; rfl
theorem zf_199 : Zft 17 ft_199 := fun pc h => by unfold ft_199; rw [h]; rfl
theorem zf_200 : Zft 19 ft_200 := fun pc h => by unfold ft_200; rw [h]; rfl
theorem zf_201 : Zft 19 ft_201 := fun pc h => by unfold ft_201; rw [h]; rfl
theorem zf_202 : Zft 17 ft_202 := fun pc h => by unfold ft_202; rw [h]; rfl
theorem zf_203 : Zft 17 ft_203 := fun pc h => by unfold ft_203; rw [h]; rfl
theorem zf_204 : Zft 25 ft_204 := fun pc h => by unfold ft_204; rw [h]; rfl
theorem zf_205 : Zft 19 ft_205 := fun pc h => by unfold ft_205; rw [h]; rfl
theorem zf_206 : Zft 24 ft_206 := fun pc h => by unfold ft_206; rw [h]; rfl
theorem zf_207 : Zft 17 ft_207 := fun pc h => by unfold ft_207; rw [h]; rfl
theorem zf_208 : Zft 17 ft_208 := fun pc h => by unfold ft_208; rw [h]; rfl
theorem zf_209 : Zft 19 ft_209 := fun pc h => by unfold ft_209; rw [h]; rfl
theorem zf_210 : Zft 25 ft_210 := fun pc h => by unfold ft_210; rw [h]; rfl
theorem zf_211 : Zft 19 ft_211 := fun pc h => by unfold ft_211; rw [h]; rfl
theorem zf_212 : Zft 17 ft_212 := fun pc h => by unfold ft_212; rw [h]; rfl
theorem zf_L : Zft 2205 ft_L := fun pc h => by unfold ft_L; rw [h]; rfl
theorem zf_all (M : Nat) : Zft (nbF M) (ftF M) := by
  unfold nbF ftF
  exact (Zc (Zc (Zc (Zc (Zc (Zc (Zc zf_0 (Zc zf_1 zf_2)) (Zc zf_3 (Zc zf_4 zf_5))) (Zc (Zc zf_6 (Zc zf_7 zf_8)) (Zc (Zc zf_9 zf_10) (Zc zf_11 zf_12)))) (Zc (Zc (Zc zf_13 (Zc zf_14 zf_15)) (Zc zf_16 (Zc zf_17 zf_18))) (Zc (Zc zf_19 (Zc zf_20 zf_21)) (Zc (Zc zf_22 zf_23) (Zc zf_24 zf_25))))) (Zc (Zc (Zc (Zc zf_26 (Zc zf_27 zf_28)) (Zc zf_29 (Zc zf_30 zf_31))) (Zc (Zc zf_32 (Zc zf_33 zf_34)) (Zc (Zc zf_35 zf_36) (Zc zf_37 zf_38)))) (Zc (Zc (Zc zf_39 (Zc zf_40 zf_41)) (Zc (Zc zf_42 zf_43) (Zc zf_44 zf_45))) (Zc (Zc zf_46 (Zc zf_47 zf_48)) (Zc (Zc zf_49 zf_50) (Zc zf_51 zf_52)))))) (Zc (Zc (Zc (Zc (Zc zf_53 (Zc zf_54 zf_55)) (Zc zf_56 (Zc zf_57 zf_58))) (Zc (Zc zf_59 (Zc zf_60 zf_61)) (Zc (Zc zf_62 zf_63) (Zc zf_64 zf_65)))) (Zc (Zc (Zc zf_66 (Zc zf_67 zf_68)) (Zc zf_69 (Zc zf_70 zf_71))) (Zc (Zc zf_72 (Zc zf_73 zf_74)) (Zc (Zc zf_75 zf_76) (Zc zf_77 zf_78))))) (Zc (Zc (Zc (Zc zf_79 (Zc zf_80 zf_81)) (Zc zf_82 (Zc zf_83 zf_84))) (Zc (Zc zf_85 (Zc zf_86 zf_87)) (Zc (Zc zf_88 zf_89) (Zc zf_90 zf_91)))) (Zc (Zc (Zc zf_92 (Zc zf_93 zf_94)) (Zc (Zc zf_95 zf_96) (Zc zf_97 zf_98))) (Zc (Zc zf_99 (Zc zf_100 zf_101)) (Zc (Zc zf_102 zf_103) (Zc zf_104 zf_105))))))) (Zc (Zc (Zc (Zc (Zc (Zc zf_106 (Zc zf_107 zf_108)) (Zc zf_109 (Zc zf_110 zf_111))) (Zc (Zc zf_112 (Zc zf_113 zf_114)) (Zc (Zc zf_115 zf_116) (Zc zf_117 zf_118)))) (Zc (Zc (Zc zf_119 (Zc zf_120 zf_121)) (Zc zf_122 (Zc zf_123 zf_124))) (Zc (Zc zf_125 (Zc zf_126 zf_127)) (Zc (Zc zf_128 zf_129) (Zc zf_130 zf_131))))) (Zc (Zc (Zc (Zc zf_132 (Zc zf_133 zf_134)) (Zc zf_135 (Zc zf_136 zf_137))) (Zc (Zc zf_138 (Zc zf_139 zf_140)) (Zc (Zc zf_141 zf_142) (Zc zf_143 zf_144)))) (Zc (Zc (Zc zf_145 (Zc zf_146 zf_147)) (Zc (Zc zf_148 zf_149) (Zc zf_150 zf_151))) (Zc (Zc zf_152 (Zc zf_153 zf_154)) (Zc (Zc zf_155 zf_156) (Zc zf_157 zf_158)))))) (Zc (Zc (Zc (Zc (Zc zf_159 (Zc zf_160 zf_161)) (Zc zf_162 (Zc zf_163 zf_164))) (Zc (Zc zf_165 (Zc zf_166 zf_167)) (Zc (Zc zf_168 zf_169) (Zc zf_170 zf_171)))) (Zc (Zc (Zc zf_172 (Zc zf_173 zf_174)) (Zc (Zc zf_175 zf_176) (Zc zf_177 zf_178))) (Zc (Zc zf_179 (Zc zf_180 zf_181)) (Zc (Zc zf_182 zf_183) (Zc zf_184 zf_185))))) (Zc (Zc (Zc (Zc zf_186 (Zc zf_187 zf_188)) (Zc zf_189 (Zc zf_190 zf_191))) (Zc (Zc zf_192 (Zc zf_193 zf_194)) (Zc (Zc zf_195 zf_196) (Zc zf_197 zf_198)))) (Zc (Zc (Zc zf_199 (Zc zf_200 zf_201)) (Zc (Zc zf_202 zf_203) (Zc zf_204 zf_205))) (Zc (Zc zf_206 (Zc zf_207 zf_208)) (Zc (Zc zf_209 zf_210) (Zc zf_211 zf_212))))))))
-- the classes
theorem cl_at : ∀ ci, ci < 11 → eCls[ci]? = some (clF ci)
  | 0, _ => rfl
  | 1, _ => rfl
  | 2, _ => rfl
  | 3, _ => rfl
  | 4, _ => rfl
  | 5, _ => rfl
  | 6, _ => rfl
  | 7, _ => rfl
  | 8, _ => rfl
  | 9, _ => rfl
  | 10, _ => rfl
  | _ + 11, h => absurd h (by omega)
theorem cl_ty : ∀ ci, ci < 11 → ∀ k, k < (clF ci).2.2 → parseFieldDescriptor ((clF ci).2.1 k).2.2.1 = some (tyR ci k)
  | 0, _ => tyX0_ok
  | 1, _ => tyX1_ok
  | 2, _ => tyX2_ok
  | 3, _ => tyX3_ok
  | 4, _ => tyX4_ok
  | 5, _ => tyX5_ok
  | 6, _ => tyX6_ok
  | 7, _ => tyX8_ok
  | 8, _ => tyX9_ok
  | 9, _ => tyX10_ok
  | 10, _ => tyX11_ok
  | _ + 11, h => absurd h (by omega)
theorem cl_nm : ∀ ci, ci < 11 → ∀ a, a < (clF ci).2.2 → ∀ b, b < (clF ci).2.2 → a ≠ b → ((clF ci).2.1 a).2.1 ≠ ((clF ci).2.1 b).2.1
  | 0, _ => nmX0
  | 1, _ => nmX1
  | 2, _ => nmX2
  | 3, _ => nmX3
  | 4, _ => nmX4
  | 5, _ => nmX5
  | 6, _ => nmX6
  | 7, _ => nmX8
  | 8, _ => nmX9
  | 9, _ => nmX10
  | 10, _ => nmX11
  | _ + 11, h => absurd h (by omega)
set_option maxRecDepth 100000 in
theorem ly_all : (List.range 11).all (fun ci => (List.range (clF ci).2.2).all (fun k => chk ((lyF ci).getD k 0) (u_lay (clF ci).1 (clF ci).2.1 k))) = true := by decide +kernel
theorem cl_ws {ci : Nat} (h : ci < 11) : ∀ w ∈ u_ws (clF ci).1 (clF ci).2.1 (clF ci).2.2, w ∈ GT := by
  intro w hw
  unfold u_ws at hw
  obtain ⟨k, hk, rfl⟩ := List.mem_map.mp hw
  exact chk_in (List.all_eq_true.mp (List.all_eq_true.mp ly_all ci (List.mem_range.mpr h)) k hk)
-- the links
set_option maxRecDepth 100000 in
theorem FL_all : FLs.all (fun q => Nat.blt q.2.2.2.1 11 && (Nat.blt q.2.2.2.2 (clF q.2.2.2.1).2.2 && chk q.1 (.fieldLink (cn q.2.1) q.2.2.1 ((clF q.2.2.2.1).2.1 q.2.2.2.2).1 ((clF q.2.2.2.1).2.1 q.2.2.2.2).2.1 ((clF q.2.2.2.1).2.1 q.2.2.2.2).2.2.1))) = true := by decide +kernel
set_option maxRecDepth 100000 in
theorem ML_all : MLs.all (fun q => Nat.blt q.2.2.2 213 && chk q.1 (.methodLink (cn q.2.1) q.2.2.1 (mtF q.2.2.2).1)) = true := by decide +kernel
set_option maxRecDepth 100000 in
theorem CL_all : CLs.all (fun q => Nat.blt q.2.2.2.2.2 11 && (chk q.1 (.classLink (cn q.2.2.2.1) q.2.2.2.2.1 (clF q.2.2.2.2.2).1) && (chk q.2.1 (.instantiable (clF q.2.2.2.2.2).1 (clF q.2.2.2.2.2).2.2) && chk q.2.2.1 (.initialized (clF q.2.2.2.2.2).1)))) = true := by decide +kernel
set_option maxRecDepth 100000 in
theorem KC_all : KCs.all (fun q => chk q.1 (.constant (cn q.2.1) q.2.2.1 (Int32.ofInt q.2.2.2))) = true := by decide +kernel
set_option maxRecDepth 100000 in
theorem KL_all : KLs.all (fun q => chk q.1 (.constantLong (cn q.2.1) q.2.2.1 (Int64.ofInt q.2.2.2))) = true := by decide +kernel
set_option maxRecDepth 100000 in
theorem AC_all : ACs.all (fun q => chk q.1 (.methodLink (cn q.2.1) q.2.2 arraycopyName)) = true := by decide +kernel
set_option maxRecDepth 100000 in
theorem OI_all : OIs.all (fun q => chk q.1 (.methodLink (cn q.2.1) q.2.2 Lib.objectInit)) = true := by decide +kernel
set_option maxRecDepth 100000 in
theorem AR_all : (chk AR.1 (.arrayClass .int) && (chk AR.2.1 (.arrayClass .long) && (chk AR.2.2.1 (.arrayClass .byte) && (chk AR.2.2.2.1 (.native arraycopyName) && (chk AR.2.2.2.2.1 (.static arraycopyName) && (chk AR.2.2.2.2.2.1 (.initialized "java/lang/System") && (chk AR.2.2.2.2.2.2.1 (.instanceMethod Lib.objectInit) && chk AR.2.2.2.2.2.2.2 (.code Lib.objectInit ⟨#[0xb1]⟩ 1 none)))))))) = true := by decide +kernel
set_option maxRecDepth 100000 in
theorem MN_all : (MNs.all (fun q => chk q.1 (.methodLink (cn q.2.1) q.2.2 Lib.Math.min.name)) && (chk MNp.1 (.static Lib.Math.min.name) && (chk MNp.2.1 (.initialized "java/lang/Math") && chk MNp.2.2 (.code Lib.Math.min.name Lib.Math.min.code 2 (some .int))))) = true := by decide +kernel
-- the methods
def eqBs : List UInt8 → List UInt8 → Bool
  | [], [] => true
  | a :: as, b :: bs => Nat.beq a.toNat b.toNat && eqBs as bs
  | _, _ => false
theorem eqBs_eq : ∀ {a b : List UInt8}, eqBs a b = true → a = b
  | [], [], _ => rfl
  | a :: as, b :: bs, h => by
    unfold eqBs at h
    rw [Bool.and_eq_true] at h
    rw [UInt8.toNat_inj.mp (Nat.eq_of_beq_eq_true h.1), eqBs_eq h.2]
  | [], _ :: _, h => by cases h
  | _ :: _, [], h => by cases h
def eqBA (a b : ByteArray) : Bool := eqBs a.data.toList b.data.toList
theorem eqBA_eq {a b : ByteArray} (h : eqBA a b = true) : a = b := by
  obtain ⟨⟨a⟩⟩ := a
  obtain ⟨⟨b⟩⟩ := b
  have := eqBs_eq h
  rw [show a = b from this]
def codeEq : Cond → Cond → Bool
  | .code x b n r, .code x' b' n' r' => decide (x = x') && (eqBA b b' && (Nat.beq n n' && decide (r = r')))
  | .codeWith x b n r h, .codeWith x' b' n' r' h' => decide (x = x') && (eqBA b b' && (Nat.beq n n' && (decide (r = r') && decide (h = h'))))
  | _, _ => false
theorem codeEq_eq {v w : Cond} (h : codeEq v w = true) : v = w := by
  unfold codeEq at h
  split at h
  · simp only [Bool.and_eq_true, decide_eq_true_eq] at h
    obtain ⟨h1, h2, h3, h4⟩ := h
    rw [h1, eqBA_eq h2, Nat.eq_of_beq_eq_true h3, h4]
  · simp only [Bool.and_eq_true, decide_eq_true_eq] at h
    obtain ⟨h1, h2, h3, h4, h5⟩ := h
    rw [h1, eqBA_eq h2, Nat.eq_of_beq_eq_true h3, h4, h5]
  · cases h
def chkC (i : Nat) (w : Cond) : Bool := match lw_tbl[i]? with
  | some v => codeEq v w && goodWord w
  | none => false
theorem chkC_in {i : Nat} {w : Cond} (h : chkC i w = true) : w ∈ GT := by
  unfold chkC at h
  split at h
  next v hv =>
    rw [Bool.and_eq_true] at h
    have := codeEq_eq h.1
    subst this
    exact List.mem_filter.mpr ⟨List.mem_of_getElem? hv, h.2⟩
  next => cases h
def chkM (M : Nat) : Bool := chkC (mpF M).1 (mtF M).2.1 && (chk (mpF M).2.1 (.initialized (mtF M).1.cls) && ((match kdF M with
   | 0 => chk (mpF M).2.2.1 (.static (mtF M).1)
   | 1 => chk (mpF M).2.2.1 (.instanceMethod (mtF M).1) && (chk (mpF M).2.2.2 (.selects (mtF M).1.cls (mtF M).1 (mtF M).1) && (Nat.blt (ciF M) 11 && decide ((clF (ciF M)).1 = (mtF M).1.cls)))
   | 2 => chk (mpF M).2.2.1 (.instanceMethod (mtF M).1) && (decide ((mtF M).1.name = "<init>") && decide ((mtF M).2.2.2.2.1 = none))
   | _ => true) && (decide ((mtF M).1.cls ≠ "java/lang/invoke/MethodHandle") && (decide ((mtF M).1.cls ≠ "java/lang/invoke/VarHandle") && (decide ((parseMethodDescriptor (mtF M).1.desc).map (fun d => d.parameters.length) = some (npF M)) && (Nat.ble (mtF M).2.2.2.1 45 && (decide (cn (ocF M) = (mtF M).1.cls) && (plainName (mtF M).1.cls && (bif Nat.blt M 185 then codeEq (mtF M).2.1 (Jvm.Cond.code (mtF M).1 (mtF M).2.2.1 (mtF M).2.2.2.1 (mtF M).2.2.2.2.1) else codeEq (mtF M).2.1 (Jvm.Cond.codeWith (mtF M).1 (mtF M).2.2.1 (mtF M).2.2.2.1 (mtF M).2.2.2.2.1 (hhF M)))))))))))
