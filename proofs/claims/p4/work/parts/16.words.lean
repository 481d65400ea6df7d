/-! ===== THE TABLES, 2: where the words stand; links; the check of a row (printed by wip/engine3/gen/gen2.py) ===== -/
def GT : List Cond := lw_tbl.filter goodWord
theorem GT_good : ∀ w ∈ GT, goodWord w = true := fun w hw => (List.mem_filter.mp hw).2
theorem GT_tbl : ∀ w ∈ GT, w ∈ lw_tbl := fun w hw => (List.mem_filter.mp hw).1
def chk (i : Nat) (w : Cond) : Bool := decide (eGet lw_tbl i = some w) && goodWord w
theorem chk_in {i : Nat} {w : Cond} (h : chk i w = true) : w ∈ GT := by
  unfold chk at h
  rw [Bool.and_eq_true, decide_eq_true_eq, eGet_eq] at h
  exact List.mem_filter.mpr ⟨List.mem_of_getElem? h.1, h.2⟩
def lyF (ci : Nat) : List Nat := bif Nat.blt ci 5 then (bif Nat.blt ci 2 then (bif Nat.blt ci 1 then ([309, 311, 313]) else ([442, 444, 446, 448, 450, 452, 454, 456])) else (bif Nat.blt ci 3 then ([413, 415, 417, 419, 421]) else (bif Nat.blt ci 4 then ([220, 222, 224, 226, 228, 230, 232, 234, 236, 238, 240, 242, 244, 246, 248]) else ([266, 268, 270, 272, 274, 276, 278, 280, 282, 284, 286])))) else (bif Nat.blt ci 8 then (bif Nat.blt ci 6 then ([351, 353, 355]) else (bif Nat.blt ci 7 then ([327, 329, 331]) else ([368, 370, 372, 374]))) else (bif Nat.blt ci 9 then ([391, 393, 395, 397]) else (bif Nat.blt ci 10 then ([469, 471, 473, 475, 477, 479, 481, 483, 485]) else ([1527, 1529, 1531, 1533, 1535, 1537, 1539, 1541, 1543, 1545, 1547, 1549, 1551, 1553, 1555, 1557, 1559, 1561, 1563, 1565, 1567, 1569, 1571, 1573, 1575, 1577, 1579, 1581, 1583, 1585, 1587, 1589, 1591, 1593, 1595, 1597, 1599, 1601, 1603, 1605, 1607, 1609, 1611, 1613, 1615, 1617, 1619, 1621, 1623, 1625, 1627, 1629, 1631, 1633, 1635, 1637]))))
def clF (ci : Nat) : vw_C := bif Nat.blt ci 5 then (bif Nat.blt ci 2 then (bif Nat.blt ci 1 then ((RX0, TX0, 3)) else ((RX1, TX1, 8))) else (bif Nat.blt ci 3 then ((RX2, TX2, 5)) else (bif Nat.blt ci 4 then ((RX3, TX3, 15)) else ((RX4, TX4, 11))))) else (bif Nat.blt ci 8 then (bif Nat.blt ci 6 then ((RX5, TX5, 3)) else (bif Nat.blt ci 7 then ((RX6, TX6, 3)) else ((RX8, TX8, 4)))) else (bif Nat.blt ci 9 then ((RX9, TX9, 4)) else (bif Nat.blt ci 10 then ((RX10, TX10, 9)) else ((RX11, TX11, 56)))))
def tyR (ci : Nat) : Nat → FieldType := bif Nat.blt ci 5 then (bif Nat.blt ci 2 then (bif Nat.blt ci 1 then (tyX0) else (tyX1)) else (bif Nat.blt ci 3 then (tyX2) else (bif Nat.blt ci 4 then (tyX3) else (tyX4)))) else (bif Nat.blt ci 8 then (bif Nat.blt ci 6 then (tyX5) else (bif Nat.blt ci 7 then (tyX6) else (tyX8))) else (bif Nat.blt ci 9 then (tyX9) else (bif Nat.blt ci 10 then (tyX10) else (tyX11))))
def FLs : List (Nat × Nat × Nat × Nat × Nat) := [(304, 0, 11, 0, 0), (305, 0, 15, 0, 1), (308, 0, 19, 0, 2), (349, 0, 28, 5, 1), (440, 1, 9, 1, 6), (441, 1, 15, 1, 7), (430, 1, 19, 1, 0), (431, 1, 23, 1, 1), (359, 1, 27, 7, 0), (364, 1, 38, 7, 2), (432, 1, 52, 1, 2), (434, 1, 56, 1, 3), (169, 1, 65, 3, 0), (436, 1, 91, 1, 4), (438, 1, 94, 1, 5), (407, 2, 9, 2, 1), (411, 2, 15, 2, 3), (412, 2, 18, 2, 4), (406, 2, 21, 2, 0), (173, 2, 34, 3, 1), (409, 2, 44, 2, 2), (168, 2, 47, 3, 0), (187, 2, 60, 3, 5), (182, 3, 9, 3, 4), (186, 3, 15, 3, 5), (191, 3, 18, 3, 6), (194, 3, 21, 3, 7), (198, 3, 24, 3, 8), (201, 3, 27, 3, 9), (204, 3, 30, 3, 10), (209, 3, 33, 3, 11), (211, 3, 36, 3, 12), (214, 3, 39, 3, 13), (217, 3, 42, 3, 14), (165, 3, 48, 3, 0), (172, 3, 52, 3, 1), (177, 3, 55, 3, 2), (179, 3, 58, 3, 3), (252, 4, 12, 4, 0), (254, 4, 18, 4, 1), (257, 4, 22, 4, 3), (255, 4, 26, 4, 2), (260, 4, 32, 4, 5), (261, 4, 35, 4, 6), (265, 4, 38, 4, 10), (259, 4, 42, 4, 4), (262, 4, 48, 4, 7), (263, 4, 55, 4, 8), (264, 4, 79, 4, 9), (180, 4, 116, 3, 3), (171, 4, 133, 3, 0), (185, 4, 136, 3, 4), (189, 4, 144, 3, 5), (193, 4, 147, 3, 6), (196, 4, 150, 3, 7), (175, 4, 153, 3, 1), (200, 4, 156, 3, 8), (203, 4, 159, 3, 9), (207, 4, 162, 3, 10), (178, 4, 164, 3, 2), (210, 4, 167, 3, 11), (212, 4, 169, 3, 12), (348, 5, 11, 5, 1), (350, 5, 15, 5, 2), (347, 5, 18, 5, 0), (166, 5, 31, 3, 0), (192, 5, 37, 3, 6), (199, 5, 40, 3, 8), (202, 5, 43, 3, 9), (184, 5, 52, 3, 4), (176, 5, 55, 3, 1), (208, 5, 66, 3, 10), (190, 5, 98, 3, 5), (197, 5, 101, 3, 7), (181, 5, 111, 3, 3), (213, 5, 117, 3, 12), (216, 5, 129, 3, 13), (219, 5, 137, 3, 14), (325, 6, 11, 6, 1), (326, 6, 15, 6, 2), (322, 6, 18, 6, 0), (361, 7, 12, 7, 1), (363, 7, 21, 7, 2), (366, 7, 25, 7, 3), (358, 7, 34, 7, 0), (323, 7, 44, 6, 0), (306, 7, 67, 0, 1), (390, 8, 9, 8, 3), (385, 8, 15, 8, 0), (205, 8, 25, 3, 10), (167, 8, 30, 3, 0), (386, 8, 50, 8, 1), (388, 8, 53, 8, 2), (460, 9, 10, 9, 0), (461, 9, 19, 9, 1), (462, 9, 28, 9, 2), (463, 9, 32, 9, 3), (464, 9, 38, 9, 4), (465, 9, 45, 9, 5), (466, 9, 52, 9, 6), (467, 9, 61, 9, 7), (468, 9, 65, 9, 8), (256, 9, 77, 4, 2), (367, 9, 92, 7, 3), (253, 9, 96, 4, 0), (258, 9, 105, 4, 3), (360, 9, 108, 7, 0), (170, 9, 114, 3, 0), (174, 9, 117, 3, 1), (206, 9, 120, 3, 10), (362, 9, 133, 7, 1), (307, 9, 137, 0, 1), (365, 9, 142, 7, 2), (324, 9, 146, 6, 0), (183, 9, 157, 3, 4), (188, 9, 160, 3, 5), (195, 9, 166, 3, 7), (215, 9, 204, 3, 13), (218, 9, 266, 3, 14), (387, 9, 296, 8, 1), (389, 9, 299, 8, 2), (410, 9, 305, 2, 2), (408, 9, 308, 2, 1), (433, 9, 329, 1, 2), (435, 9, 332, 1, 3), (437, 9, 338, 1, 4), (439, 9, 341, 1, 5), (1471, 10, 25, 10, 0), (1473, 10, 29, 10, 2), (1474, 10, 33, 10, 3), (1475, 10, 35, 10, 4), (1476, 10, 38, 10, 5), (1477, 10, 41, 10, 6), (1478, 10, 44, 10, 7), (1479, 10, 47, 10, 8), (1480, 10, 50, 10, 9), (1481, 10, 52, 10, 10), (1482, 10, 55, 10, 11), (1483, 10, 58, 10, 12), (1493, 10, 61, 10, 22), (1494, 10, 65, 10, 23), (1495, 10, 68, 10, 24), (1496, 10, 71, 10, 25), (1497, 10, 74, 10, 26), (1498, 10, 76, 10, 27), (1499, 10, 79, 10, 28), (1500, 10, 82, 10, 29), (1501, 10, 85, 10, 30), (1506, 10, 88, 10, 35), (1507, 10, 91, 10, 36), (1508, 10, 94, 10, 37), (1509, 10, 97, 10, 38), (1510, 10, 100, 10, 39), (1511, 10, 103, 10, 40), (1512, 10, 106, 10, 41), (1513, 10, 109, 10, 42), (1514, 10, 112, 10, 43), (1515, 10, 115, 10, 44), (1516, 10, 118, 10, 45), (1522, 10, 121, 10, 51), (1523, 10, 124, 10, 52), (1524, 10, 127, 10, 53), (1525, 10, 130, 10, 54), (1526, 10, 133, 10, 55), (1472, 10, 136, 10, 1), (1484, 10, 143, 10, 13), (1486, 10, 146, 10, 15), (1485, 10, 149, 10, 14), (1489, 10, 156, 10, 18), (1487, 10, 159, 10, 16), (1488, 10, 169, 10, 17), (1490, 10, 182, 10, 19), (1491, 10, 185, 10, 20), (1492, 10, 188, 10, 21), (1502, 10, 283, 10, 31), (1503, 10, 285, 10, 32), (1504, 10, 288, 10, 33), (1505, 10, 291, 10, 34), (1519, 10, 294, 10, 48), (1517, 10, 440, 10, 46), (1518, 10, 456, 10, 47), (1520, 10, 463, 10, 49), (1521, 10, 466, 10, 50)]
def MLs : List (Nat × Nat × Nat × Nat) := [(1363, 1, 32, 56), (1364, 1, 42, 107), (1369, 1, 48, 8), (1387, 1, 59, 281), (1390, 1, 70, 66), (1391, 1, 74, 85), (1392, 1, 78, 10), (1373, 1, 81, 80), (1374, 1, 84, 84), (1378, 1, 87, 105), (1407, 1, 97, 279), (1335, 2, 25, 16), (658, 2, 28, 96), (1339, 2, 40, 17), (1348, 2, 50, 14), (1347, 2, 54, 86), (654, 2, 57, 101), (1343, 2, 63, 12), (648, 2, 66, 277), (649, 2, 71, 15), (653, 2, 75, 280), (161, 3, 45, 20), (999, 3, 67, 22), (1003, 3, 70, 280), (1004, 3, 76, 23), (157, 4, 11, 19), (779, 4, 29, 20), (780, 4, 45, 33), (883, 4, 51, 38), (784, 4, 58, 49), (788, 4, 62, 31), (791, 4, 66, 30), (794, 4, 69, 51), (799, 4, 74, 285), (892, 4, 82, 288), (893, 4, 86, 282), (888, 4, 92, 32), (913, 4, 96, 36), (930, 4, 101, 48), (935, 4, 106, 44), (944, 4, 111, 47), (939, 4, 119, 27), (949, 4, 123, 41), (925, 4, 126, 37), (917, 4, 130, 28), (921, 4, 140, 40), (953, 4, 172, 35), (988, 4, 179, 26), (957, 4, 182, 39), (962, 4, 189, 46), (966, 4, 192, 45), (970, 4, 195, 43), (974, 4, 198, 42), (978, 4, 201, 52), (340, 5, 22, 55), (344, 5, 25, 280), (571, 5, 58, 91), (575, 5, 62, 76), (534, 5, 69, 80), (538, 5, 72, 72), (579, 5, 75, 89), (583, 5, 78, 69), (595, 5, 81, 63), (542, 5, 84, 100), (546, 5, 88, 102), (587, 5, 92, 77), (591, 5, 95, 68), (550, 5, 114, 24), (554, 5, 122, 276), (557, 5, 126, 97), (561, 5, 132, 277), (567, 5, 140, 64), (1425, 5, 147, 65), (1440, 5, 151, 78), (1444, 5, 154, 62), (1447, 5, 157, 94), (1451, 5, 161, 73), (336, 7, 31, 53), (1011, 7, 38, 55), (1012, 7, 41, 1), (682, 7, 48, 56), (687, 7, 52, 2), (691, 7, 55, 106), (520, 7, 64, 4), (609, 7, 68, 3), (629, 8, 19, 95), (633, 8, 34, 100), (634, 8, 37, 117), (1314, 8, 56, 278), (1318, 8, 59, 85), (1319, 8, 62, 114), (1323, 8, 66, 277), (291, 9, 18, 19), (294, 9, 25, 108), (378, 9, 37, 53), (381, 9, 44, 113), (402, 9, 51, 11), (426, 9, 58, 5), (492, 9, 69, 29), (496, 9, 73, 50), (775, 9, 88, 34), (994, 9, 99, 21), (1007, 9, 102, 109), (1024, 9, 111, 95), (508, 9, 123, 57), (1025, 9, 127, 24), (1026, 9, 130, 54), (1056, 9, 154, 139), (1061, 9, 163, 85), (1065, 9, 169, 83), (1069, 9, 172, 98), (1073, 9, 175, 58), (1077, 9, 178, 102), (1086, 9, 184, 142), (1091, 9, 187, 101), (1092, 9, 190, 86), (1096, 9, 193, 67), (1108, 9, 198, 141), (1113, 9, 201, 74), (1117, 9, 207, 70), (512, 9, 212, 147), (516, 9, 215, 111), (530, 9, 218, 81), (1129, 9, 221, 66), (1140, 9, 225, 92), (1151, 9, 228, 71), (1155, 9, 231, 90), (1166, 9, 234, 73), (1177, 9, 237, 93), (605, 9, 240, 112), (1188, 9, 243, 143), (1193, 9, 246, 140), (1198, 9, 249, 119), (1202, 9, 253, 56), (1210, 9, 256, 60), (1221, 9, 260, 61), (1239, 9, 263, 59), (617, 9, 269, 79), (1264, 9, 272, 88), (1275, 9, 275, 277), (1283, 9, 280, 64), (1291, 9, 283, 80), (1292, 9, 286, 99), (625, 9, 289, 115), (1310, 9, 293, 116), (1331, 9, 302, 18), (644, 9, 311, 13), (666, 9, 314, 104), (1359, 9, 318, 9), (1382, 9, 322, 107), (1383, 9, 325, 7), (1403, 9, 335, 6), (1421, 9, 346, 87), (1436, 9, 350, 82), (1452, 9, 353, 75), (678, 9, 356, 110), (1795, 10, 139, 206), (1656, 10, 152, 176), (1660, 10, 162, 207), (1663, 10, 166, 205), (1668, 10, 179, 208), (1680, 10, 191, 288), (1681, 10, 195, 282), (1676, 10, 199, 202), (1699, 10, 202, 209), (1683, 10, 205, 167), (1652, 10, 209, 249), (1687, 10, 212, 231), (1724, 10, 215, 214), (1728, 10, 218, 272), (1732, 10, 222, 218), (1695, 10, 225, 228), (1720, 10, 228, 232), (1716, 10, 231, 233), (1712, 10, 236, 234), (1707, 10, 239, 230), (1703, 10, 244, 227), (1743, 10, 249, 168), (1691, 10, 257, 245), (1739, 10, 262, 244), (1748, 10, 267, 246), (1648, 10, 270, 187), (1671, 10, 273, 229), (1752, 10, 276, 256), (1756, 10, 279, 255), (1817, 10, 298, 235), (1767, 10, 302, 260), (1771, 10, 305, 271), (1802, 10, 308, 252), (1806, 10, 311, 175), (1779, 10, 314, 173), (1809, 10, 317, 257), (1813, 10, 320, 265), (1867, 10, 323, 269), (1798, 10, 326, 197), (1783, 10, 328, 210), (1879, 10, 331, 268), (1863, 10, 335, 215), (1871, 10, 338, 241), (1875, 10, 341, 226), (1883, 10, 344, 184), (1859, 10, 347, 166), (1775, 10, 353, 181), (1791, 10, 357, 204), (1824, 10, 360, 212), (1829, 10, 365, 199), (1851, 10, 370, 222), (1843, 10, 376, 236), (1847, 10, 379, 213), (1855, 10, 382, 196), (1901, 10, 387, 188), (1905, 10, 390, 211), (1909, 10, 393, 237), (1917, 10, 397, 217), (1929, 10, 400, 263), (1942, 10, 405, 243), (1962, 10, 408, 200), (1990, 10, 411, 169), (2006, 10, 414, 253), (2019, 10, 418, 221), (2023, 10, 421, 219), (2015, 10, 430, 259), (2032, 10, 433, 177), (2046, 10, 443, 203), (2050, 10, 446, 258), (2058, 10, 449, 262), (2070, 10, 452, 194), (2078, 10, 460, 183), (2087, 10, 469, 179), (705, 16, 7, 145), (1020, 16, 15, 125), (1052, 16, 20, 121), (1082, 16, 24, 160), (1104, 16, 27, 155), (1125, 16, 30, 146), (1136, 16, 33, 148), (1147, 16, 36, 120), (1162, 16, 40, 156), (1173, 16, 43, 162), (1184, 16, 46, 161), (1206, 16, 50, 151), (1217, 16, 53, 135), (1228, 16, 56, 127), (1235, 16, 59, 128), (1246, 16, 62, 131), (1253, 16, 65, 122), (1260, 16, 68, 150), (1271, 16, 71, 159), (1279, 16, 74, 158), (1287, 16, 77, 133), (1299, 16, 80, 138), (1306, 16, 83, 124), (1327, 16, 86, 123), (1355, 16, 89, 164), (1399, 16, 92, 137), (1416, 16, 95, 134), (1432, 16, 99, 154), (143, 16, 102, 118), (1458, 16, 105, 165), (488, 16, 106, 130), (1640, 16, 110, 190), (701, 16, 111, 308), (1644, 16, 116, 224), (500, 16, 117, 129), (1759, 16, 121, 189), (1016, 16, 122, 299), (1763, 16, 124, 180), (1049, 16, 125, 295), (1787, 16, 128, 171), (1079, 16, 129, 318), (1820, 16, 131, 267), (1101, 16, 132, 314), (1833, 16, 134, 251), (504, 16, 135, 126), (1838, 16, 138, 182), (1122, 16, 139, 309), (1888, 16, 141, 225), (1133, 16, 142, 310), (1893, 16, 144, 238), (1144, 16, 145, 294), (1897, 16, 147, 170), (1159, 16, 148, 315), (1913, 16, 150, 254), (1170, 16, 151, 320), (1921, 16, 153, 273), (601, 16, 154, 157), (1925, 16, 157, 261), (1181, 16, 158, 319), (1933, 16, 161, 270), (1203, 16, 162, 312), (1938, 16, 164, 242), (1214, 16, 165, 305), (1946, 16, 167, 198), (1225, 16, 168, 300), (1950, 16, 170, 185), (1232, 16, 171, 301), (1954, 16, 173, 186), (1243, 16, 174, 302), (1958, 16, 176, 191), (1250, 16, 177, 296), (1966, 16, 179, 172), (613, 16, 180, 144), (1970, 16, 183, 223), (1257, 16, 184, 311), (1974, 16, 186, 240), (1268, 16, 187, 317), (1978, 16, 189, 266), (1276, 16, 190, 316), (1982, 16, 192, 264), (1284, 16, 193, 303), (1986, 16, 195, 193), (1296, 16, 196, 307), (1994, 16, 198, 220), (621, 16, 199, 153), (1998, 16, 202, 248), (1303, 16, 203, 298), (2002, 16, 205, 178), (1324, 16, 206, 297), (2010, 16, 208, 174), (640, 16, 209, 163), (2028, 16, 212, 274), (662, 16, 213, 152), (2036, 16, 216, 247), (1352, 16, 217, 321), (2042, 16, 219, 275), (1396, 16, 220, 306), (2054, 16, 222, 216), (670, 16, 223, 132), (2062, 16, 226, 192), (1413, 16, 227, 304), (2066, 16, 230, 195), (1429, 16, 231, 313), (2074, 16, 233, 250), (674, 16, 234, 136), (2083, 16, 237, 201), (697, 16, 238, 149), (2090, 16, 242, 239), (817, 17, 335, 284), (807, 17, 492, 287), (897, 17, 495, 290), (813, 17, 505, 288), (803, 17, 633, 286), (821, 17, 637, 291), (903, 17, 1059, 293), (900, 18, 9, 283), (824, 18, 88, 289), (831, 18, 95, 292)]
def CLs : List (Nat × Nat × Nat × Nat × Nat × Nat) := [(155, 156, 116, 4, 9, 3), (298, 299, 118, 7, 9, 0), (316, 317, 119, 7, 18, 6), (334, 335, 120, 7, 29, 5), (149, 150, 115, 9, 7, 4), (290, 156, 116, 9, 16, 3), (292, 293, 117, 9, 23, 7), (377, 335, 120, 9, 35, 5), (379, 380, 122, 9, 42, 8), (400, 401, 123, 9, 49, 2), (424, 425, 124, 9, 56, 1), (141, 142, 114, 16, 8, 9), (1456, 1457, 125, 16, 103, 10)]
def KCs : List (Nat × Nat × Nat × Int) := [(599, 5, 104, 99999), (1443, 5, 160, 1103515245), (638, 8, 43, 2147483647), (1666, 10, 172, 100000), (1887, 10, 334, 99999), (2082, 10, 459, 1103515245), (1317, 12, 264, 65536), (564, 12, 265, 1431655765), (565, 12, 266, 858993459), (566, 12, 267, 252645135)]
def KLs : List (Nat × Nat × Nat × Int) := [(1828, 10, 363, 2), (1837, 10, 368, 3), (1842, 10, 374, 20), (1892, 10, 385, 9), (1937, 10, 403, 60), (2014, 10, 428, (-1)), (2040, 10, 436, 30), (2041, 10, 438, 99), (1410, 13, 314, 6148914691236517205), (1411, 13, 316, 3689348814741910323), (1412, 13, 318, 1085102592571150095)]
def ACs : List (Nat × Nat × Nat) := [(524, 0, 22), (998, 3, 61), (686, 5, 46), (695, 6, 22), (696, 7, 58)]
def OIs : List (Nat × Nat × Nat) := [(303, 0, 1), (429, 1, 3), (405, 2, 3), (160, 3, 3), (154, 4, 3), (339, 5, 3), (321, 6, 3), (297, 7, 3), (384, 8, 3), (146, 9, 1), (1461, 10, 3)]
def MNs : List (Nat × Nat × Nat) := [(527, 0, 31), (600, 5, 105), (639, 8, 44), (1667, 10, 173), (830, 18, 38)]
def MNp : Nat × Nat × Nat := (528, 132, 529)
def MXs : List (Nat × Nat × Nat) := [(1368, 6, 28), (2027, 10, 425), (827, 18, 92)]
def MXp : Nat × Nat × Nat := (828, 132, 829)
def ABs : List (Nat × Nat × Nat) := [(1030, 5, 144), (1786, 10, 350)]
def ABp : Nat × Nat × Nat := (1031, 132, 1032)
def SFp : Nat × Nat × Nat × Nat := (2111, 2110, 811, 852)
def kdF (M : Nat) : Nat := bif Nat.blt M 161 then (bif Nat.blt M 80 then (bif Nat.blt M 40 then (bif Nat.blt M 20 then (bif Nat.blt M 10 then (bif Nat.blt M 5 then (bif Nat.blt M 2 then (bif Nat.blt M 1 then (2) else (1)) else (bif Nat.blt M 3 then (1) else (bif Nat.blt M 4 then (1) else (1)))) else (bif Nat.blt M 7 then (bif Nat.blt M 6 then (2) else (1)) else (bif Nat.blt M 8 then (1) else (bif Nat.blt M 9 then (1) else (1))))) else (bif Nat.blt M 15 then (bif Nat.blt M 12 then (bif Nat.blt M 11 then (1) else (2)) else (bif Nat.blt M 13 then (1) else (bif Nat.blt M 14 then (1) else (1)))) else (bif Nat.blt M 17 then (bif Nat.blt M 16 then (1) else (1)) else (bif Nat.blt M 18 then (1) else (bif Nat.blt M 19 then (1) else (2)))))) else (bif Nat.blt M 30 then (bif Nat.blt M 25 then (bif Nat.blt M 22 then (bif Nat.blt M 21 then (1) else (1)) else (bif Nat.blt M 23 then (1) else (bif Nat.blt M 24 then (0) else (1)))) else (bif Nat.blt M 27 then (bif Nat.blt M 26 then (2) else (1)) else (bif Nat.blt M 28 then (1) else (bif Nat.blt M 29 then (1) else (1))))) else (bif Nat.blt M 35 then (bif Nat.blt M 32 then (bif Nat.blt M 31 then (0) else (0)) else (bif Nat.blt M 33 then (1) else (bif Nat.blt M 34 then (1) else (1)))) else (bif Nat.blt M 37 then (bif Nat.blt M 36 then (1) else (1)) else (bif Nat.blt M 38 then (1) else (bif Nat.blt M 39 then (1) else (1))))))) else (bif Nat.blt M 60 then (bif Nat.blt M 50 then (bif Nat.blt M 45 then (bif Nat.blt M 42 then (bif Nat.blt M 41 then (1) else (1)) else (bif Nat.blt M 43 then (1) else (bif Nat.blt M 44 then (1) else (1)))) else (bif Nat.blt M 47 then (bif Nat.blt M 46 then (1) else (1)) else (bif Nat.blt M 48 then (1) else (bif Nat.blt M 49 then (1) else (1))))) else (bif Nat.blt M 55 then (bif Nat.blt M 52 then (bif Nat.blt M 51 then (1) else (1)) else (bif Nat.blt M 53 then (1) else (bif Nat.blt M 54 then (2) else (1)))) else (bif Nat.blt M 57 then (bif Nat.blt M 56 then (1) else (1)) else (bif Nat.blt M 58 then (1) else (bif Nat.blt M 59 then (1) else (1)))))) else (bif Nat.blt M 70 then (bif Nat.blt M 65 then (bif Nat.blt M 62 then (bif Nat.blt M 61 then (1) else (1)) else (bif Nat.blt M 63 then (0) else (bif Nat.blt M 64 then (1) else (1)))) else (bif Nat.blt M 67 then (bif Nat.blt M 66 then (1) else (1)) else (bif Nat.blt M 68 then (1) else (bif Nat.blt M 69 then (1) else (1))))) else (bif Nat.blt M 75 then (bif Nat.blt M 72 then (bif Nat.blt M 71 then (1) else (1)) else (bif Nat.blt M 73 then (1) else (bif Nat.blt M 74 then (1) else (1)))) else (bif Nat.blt M 77 then (bif Nat.blt M 76 then (1) else (1)) else (bif Nat.blt M 78 then (1) else (bif Nat.blt M 79 then (0) else (1)))))))) else (bif Nat.blt M 120 then (bif Nat.blt M 100 then (bif Nat.blt M 90 then (bif Nat.blt M 85 then (bif Nat.blt M 82 then (bif Nat.blt M 81 then (1) else (1)) else (bif Nat.blt M 83 then (1) else (bif Nat.blt M 84 then (1) else (1)))) else (bif Nat.blt M 87 then (bif Nat.blt M 86 then (1) else (1)) else (bif Nat.blt M 88 then (1) else (bif Nat.blt M 89 then (1) else (1))))) else (bif Nat.blt M 95 then (bif Nat.blt M 92 then (bif Nat.blt M 91 then (1) else (1)) else (bif Nat.blt M 93 then (1) else (bif Nat.blt M 94 then (1) else (1)))) else (bif Nat.blt M 97 then (bif Nat.blt M 96 then (1) else (1)) else (bif Nat.blt M 98 then (1) else (bif Nat.blt M 99 then (1) else (1)))))) else (bif Nat.blt M 110 then (bif Nat.blt M 105 then (bif Nat.blt M 102 then (bif Nat.blt M 101 then (1) else (1)) else (bif Nat.blt M 103 then (1) else (bif Nat.blt M 104 then (2) else (1)))) else (bif Nat.blt M 107 then (bif Nat.blt M 106 then (1) else (1)) else (bif Nat.blt M 108 then (1) else (bif Nat.blt M 109 then (2) else (1))))) else (bif Nat.blt M 115 then (bif Nat.blt M 112 then (bif Nat.blt M 111 then (1) else (1)) else (bif Nat.blt M 113 then (1) else (bif Nat.blt M 114 then (2) else (1)))) else (bif Nat.blt M 117 then (bif Nat.blt M 116 then (1) else (1)) else (bif Nat.blt M 118 then (1) else (bif Nat.blt M 119 then (2) else (1))))))) else (bif Nat.blt M 140 then (bif Nat.blt M 130 then (bif Nat.blt M 125 then (bif Nat.blt M 122 then (bif Nat.blt M 121 then (1) else (1)) else (bif Nat.blt M 123 then (1) else (bif Nat.blt M 124 then (1) else (1)))) else (bif Nat.blt M 127 then (bif Nat.blt M 126 then (1) else (1)) else (bif Nat.blt M 128 then (1) else (bif Nat.blt M 129 then (1) else (1))))) else (bif Nat.blt M 135 then (bif Nat.blt M 132 then (bif Nat.blt M 131 then (1) else (1)) else (bif Nat.blt M 133 then (1) else (bif Nat.blt M 134 then (1) else (1)))) else (bif Nat.blt M 137 then (bif Nat.blt M 136 then (1) else (1)) else (bif Nat.blt M 138 then (1) else (bif Nat.blt M 139 then (1) else (1)))))) else (bif Nat.blt M 150 then (bif Nat.blt M 145 then (bif Nat.blt M 142 then (bif Nat.blt M 141 then (1) else (1)) else (bif Nat.blt M 143 then (1) else (bif Nat.blt M 144 then (1) else (1)))) else (bif Nat.blt M 147 then (bif Nat.blt M 146 then (1) else (1)) else (bif Nat.blt M 148 then (1) else (bif Nat.blt M 149 then (1) else (1))))) else (bif Nat.blt M 155 then (bif Nat.blt M 152 then (bif Nat.blt M 151 then (1) else (1)) else (bif Nat.blt M 153 then (1) else (bif Nat.blt M 154 then (1) else (1)))) else (bif Nat.blt M 158 then (bif Nat.blt M 156 then (1) else (bif Nat.blt M 157 then (1) else (1))) else (bif Nat.blt M 159 then (1) else (bif Nat.blt M 160 then (1) else (1))))))))) else (bif Nat.blt M 241 then (bif Nat.blt M 201 then (bif Nat.blt M 181 then (bif Nat.blt M 171 then (bif Nat.blt M 166 then (bif Nat.blt M 163 then (bif Nat.blt M 162 then (1) else (1)) else (bif Nat.blt M 164 then (1) else (bif Nat.blt M 165 then (1) else (2)))) else (bif Nat.blt M 168 then (bif Nat.blt M 167 then (1) else (1)) else (bif Nat.blt M 169 then (1) else (bif Nat.blt M 170 then (1) else (1))))) else (bif Nat.blt M 176 then (bif Nat.blt M 173 then (bif Nat.blt M 172 then (1) else (1)) else (bif Nat.blt M 174 then (1) else (bif Nat.blt M 175 then (1) else (0)))) else (bif Nat.blt M 178 then (bif Nat.blt M 177 then (1) else (1)) else (bif Nat.blt M 179 then (1) else (bif Nat.blt M 180 then (0) else (1)))))) else (bif Nat.blt M 191 then (bif Nat.blt M 186 then (bif Nat.blt M 183 then (bif Nat.blt M 182 then (1) else (1)) else (bif Nat.blt M 184 then (1) else (bif Nat.blt M 185 then (1) else (1)))) else (bif Nat.blt M 188 then (bif Nat.blt M 187 then (1) else (1)) else (bif Nat.blt M 189 then (1) else (bif Nat.blt M 190 then (1) else (1))))) else (bif Nat.blt M 196 then (bif Nat.blt M 193 then (bif Nat.blt M 192 then (1) else (1)) else (bif Nat.blt M 194 then (1) else (bif Nat.blt M 195 then (1) else (1)))) else (bif Nat.blt M 198 then (bif Nat.blt M 197 then (1) else (1)) else (bif Nat.blt M 199 then (1) else (bif Nat.blt M 200 then (1) else (1))))))) else (bif Nat.blt M 221 then (bif Nat.blt M 211 then (bif Nat.blt M 206 then (bif Nat.blt M 203 then (bif Nat.blt M 202 then (1) else (1)) else (bif Nat.blt M 204 then (1) else (bif Nat.blt M 205 then (1) else (0)))) else (bif Nat.blt M 208 then (bif Nat.blt M 207 then (0) else (0)) else (bif Nat.blt M 209 then (0) else (bif Nat.blt M 210 then (1) else (0))))) else (bif Nat.blt M 216 then (bif Nat.blt M 213 then (bif Nat.blt M 212 then (1) else (1)) else (bif Nat.blt M 214 then (1) else (bif Nat.blt M 215 then (1) else (1)))) else (bif Nat.blt M 218 then (bif Nat.blt M 217 then (1) else (1)) else (bif Nat.blt M 219 then (1) else (bif Nat.blt M 220 then (1) else (1)))))) else (bif Nat.blt M 231 then (bif Nat.blt M 226 then (bif Nat.blt M 223 then (bif Nat.blt M 222 then (1) else (1)) else (bif Nat.blt M 224 then (1) else (bif Nat.blt M 225 then (1) else (1)))) else (bif Nat.blt M 228 then (bif Nat.blt M 227 then (1) else (1)) else (bif Nat.blt M 229 then (1) else (bif Nat.blt M 230 then (1) else (1))))) else (bif Nat.blt M 236 then (bif Nat.blt M 233 then (bif Nat.blt M 232 then (1) else (1)) else (bif Nat.blt M 234 then (1) else (bif Nat.blt M 235 then (1) else (0)))) else (bif Nat.blt M 238 then (bif Nat.blt M 237 then (1) else (1)) else (bif Nat.blt M 239 then (1) else (bif Nat.blt M 240 then (1) else (1)))))))) else (bif Nat.blt M 281 then (bif Nat.blt M 261 then (bif Nat.blt M 251 then (bif Nat.blt M 246 then (bif Nat.blt M 243 then (bif Nat.blt M 242 then (1) else (1)) else (bif Nat.blt M 244 then (1) else (bif Nat.blt M 245 then (1) else (1)))) else (bif Nat.blt M 248 then (bif Nat.blt M 247 then (1) else (1)) else (bif Nat.blt M 249 then (1) else (bif Nat.blt M 250 then (1) else (1))))) else (bif Nat.blt M 256 then (bif Nat.blt M 253 then (bif Nat.blt M 252 then (1) else (1)) else (bif Nat.blt M 254 then (1) else (bif Nat.blt M 255 then (1) else (0)))) else (bif Nat.blt M 258 then (bif Nat.blt M 257 then (1) else (1)) else (bif Nat.blt M 259 then (1) else (bif Nat.blt M 260 then (1) else (1)))))) else (bif Nat.blt M 271 then (bif Nat.blt M 266 then (bif Nat.blt M 263 then (bif Nat.blt M 262 then (1) else (1)) else (bif Nat.blt M 264 then (1) else (bif Nat.blt M 265 then (1) else (1)))) else (bif Nat.blt M 268 then (bif Nat.blt M 267 then (1) else (1)) else (bif Nat.blt M 269 then (1) else (bif Nat.blt M 270 then (1) else (1))))) else (bif Nat.blt M 276 then (bif Nat.blt M 273 then (bif Nat.blt M 272 then (1) else (1)) else (bif Nat.blt M 274 then (1) else (bif Nat.blt M 275 then (1) else (1)))) else (bif Nat.blt M 278 then (bif Nat.blt M 277 then (0) else (0)) else (bif Nat.blt M 279 then (0) else (bif Nat.blt M 280 then (0) else (0))))))) else (bif Nat.blt M 301 then (bif Nat.blt M 291 then (bif Nat.blt M 286 then (bif Nat.blt M 283 then (bif Nat.blt M 282 then (0) else (4)) else (bif Nat.blt M 284 then (0) else (bif Nat.blt M 285 then (4) else (4)))) else (bif Nat.blt M 288 then (bif Nat.blt M 287 then (4) else (4)) else (bif Nat.blt M 289 then (4) else (bif Nat.blt M 290 then (0) else (0))))) else (bif Nat.blt M 296 then (bif Nat.blt M 293 then (bif Nat.blt M 292 then (0) else (0)) else (bif Nat.blt M 294 then (0) else (bif Nat.blt M 295 then (0) else (0)))) else (bif Nat.blt M 298 then (bif Nat.blt M 297 then (0) else (0)) else (bif Nat.blt M 299 then (0) else (bif Nat.blt M 300 then (0) else (0)))))) else (bif Nat.blt M 311 then (bif Nat.blt M 306 then (bif Nat.blt M 303 then (bif Nat.blt M 302 then (0) else (0)) else (bif Nat.blt M 304 then (0) else (bif Nat.blt M 305 then (0) else (0)))) else (bif Nat.blt M 308 then (bif Nat.blt M 307 then (0) else (0)) else (bif Nat.blt M 309 then (0) else (bif Nat.blt M 310 then (0) else (0))))) else (bif Nat.blt M 316 then (bif Nat.blt M 313 then (bif Nat.blt M 312 then (0) else (0)) else (bif Nat.blt M 314 then (0) else (bif Nat.blt M 315 then (0) else (0)))) else (bif Nat.blt M 319 then (bif Nat.blt M 317 then (0) else (bif Nat.blt M 318 then (0) else (0))) else (bif Nat.blt M 320 then (0) else (bif Nat.blt M 321 then (0) else (0)))))))))
def mpF (M : Nat) : Nat × Nat × Nat × Nat := bif Nat.blt M 161 then (bif Nat.blt M 80 then (bif Nat.blt M 40 then (bif Nat.blt M 20 then (bif Nat.blt M 10 then (bif Nat.blt M 5 then (bif Nat.blt M 2 then (bif Nat.blt M 1 then ((302, 118, 301, 0)) else ((1015, 118, 1013, 1014))) else (bif Nat.blt M 3 then ((690, 118, 688, 689)) else (bif Nat.blt M 4 then ((612, 118, 610, 611)) else ((523, 118, 521, 522))))) else (bif Nat.blt M 7 then (bif Nat.blt M 6 then ((428, 124, 427, 0)) else ((1406, 124, 1404, 1405))) else (bif Nat.blt M 8 then ((1386, 124, 1384, 1385)) else (bif Nat.blt M 9 then ((1372, 124, 1371, 47)) else ((1362, 124, 1360, 1361)))))) else (bif Nat.blt M 15 then (bif Nat.blt M 12 then (bif Nat.blt M 11 then ((1395, 124, 1394, 48)) else ((404, 123, 403, 0))) else (bif Nat.blt M 13 then ((1346, 123, 1345, 45)) else (bif Nat.blt M 14 then ((647, 123, 645, 646)) else ((1351, 123, 1350, 46))))) else (bif Nat.blt M 17 then (bif Nat.blt M 16 then ((652, 123, 651, 11)) else ((1338, 123, 1337, 43))) else (bif Nat.blt M 18 then ((1342, 123, 1341, 44)) else (bif Nat.blt M 19 then ((1334, 123, 1332, 1333)) else ((159, 116, 158, 0))))))) else (bif Nat.blt M 30 then (bif Nat.blt M 25 then (bif Nat.blt M 22 then (bif Nat.blt M 21 then ((164, 116, 162, 163)) else ((997, 116, 995, 996))) else (bif Nat.blt M 23 then ((1002, 116, 1001, 35)) else (bif Nat.blt M 24 then ((1006, 116, 1005, 0)) else ((553, 116, 551, 552))))) else (bif Nat.blt M 27 then (bif Nat.blt M 26 then ((153, 115, 152, 0)) else ((991, 115, 990, 34))) else (bif Nat.blt M 28 then ((942, 115, 941, 24)) else (bif Nat.blt M 29 then ((920, 115, 919, 19)) else ((495, 115, 493, 494)))))) else (bif Nat.blt M 35 then (bif Nat.blt M 32 then (bif Nat.blt M 31 then ((793, 115, 792, 0)) else ((790, 115, 789, 0))) else (bif Nat.blt M 33 then ((891, 115, 890, 17)) else (bif Nat.blt M 34 then ((783, 115, 782, 13)) else ((778, 115, 776, 777))))) else (bif Nat.blt M 37 then (bif Nat.blt M 36 then ((956, 115, 955, 27)) else ((916, 115, 915, 18))) else (bif Nat.blt M 38 then ((928, 115, 927, 21)) else (bif Nat.blt M 39 then ((886, 115, 885, 16)) else ((960, 115, 959, 28)))))))) else (bif Nat.blt M 60 then (bif Nat.blt M 50 then (bif Nat.blt M 45 then (bif Nat.blt M 42 then (bif Nat.blt M 41 then ((924, 115, 923, 20)) else ((952, 115, 951, 26))) else (bif Nat.blt M 43 then ((977, 115, 976, 32)) else (bif Nat.blt M 44 then ((973, 115, 972, 31)) else ((938, 115, 937, 23))))) else (bif Nat.blt M 47 then (bif Nat.blt M 46 then ((969, 115, 968, 30)) else ((965, 115, 964, 29))) else (bif Nat.blt M 48 then ((947, 115, 946, 25)) else (bif Nat.blt M 49 then ((933, 115, 932, 22)) else ((787, 115, 786, 14)))))) else (bif Nat.blt M 55 then (bif Nat.blt M 52 then (bif Nat.blt M 51 then ((499, 115, 497, 498)) else ((797, 115, 796, 15))) else (bif Nat.blt M 53 then ((981, 115, 980, 33)) else (bif Nat.blt M 54 then ((338, 120, 337, 0)) else ((1029, 120, 1027, 1028))))) else (bif Nat.blt M 57 then (bif Nat.blt M 56 then ((343, 120, 341, 342)) else ((685, 120, 683, 684))) else (bif Nat.blt M 58 then ((511, 120, 509, 510)) else (bif Nat.blt M 59 then ((1076, 120, 1074, 1075)) else ((1242, 120, 1240, 1241))))))) else (bif Nat.blt M 70 then (bif Nat.blt M 65 then (bif Nat.blt M 62 then (bif Nat.blt M 61 then ((1213, 120, 1211, 1212)) else ((1224, 120, 1222, 1223))) else (bif Nat.blt M 63 then ((1446, 120, 1445, 0)) else (bif Nat.blt M 64 then ((598, 120, 597, 9)) else ((570, 120, 568, 569))))) else (bif Nat.blt M 67 then (bif Nat.blt M 66 then ((1428, 120, 1427, 49)) else ((1132, 120, 1130, 1131))) else (bif Nat.blt M 68 then ((1099, 120, 1097, 1098)) else (bif Nat.blt M 69 then ((594, 120, 593, 8)) else ((586, 120, 585, 6)))))) else (bif Nat.blt M 75 then (bif Nat.blt M 72 then (bif Nat.blt M 71 then ((1120, 120, 1118, 1119)) else ((1154, 120, 1152, 1153))) else (bif Nat.blt M 73 then ((541, 120, 540, 1)) else (bif Nat.blt M 74 then ((1169, 120, 1167, 1168)) else ((1116, 120, 1114, 1115))))) else (bif Nat.blt M 77 then (bif Nat.blt M 76 then ((1455, 120, 1453, 1454)) else ((578, 120, 577, 4))) else (bif Nat.blt M 78 then ((590, 120, 589, 7)) else (bif Nat.blt M 79 then ((1442, 120, 1441, 0)) else ((620, 120, 618, 619))))))))) else (bif Nat.blt M 120 then (bif Nat.blt M 100 then (bif Nat.blt M 90 then (bif Nat.blt M 85 then (bif Nat.blt M 82 then (bif Nat.blt M 81 then ((537, 120, 535, 536)) else ((533, 120, 531, 532))) else (bif Nat.blt M 83 then ((1439, 120, 1437, 1438)) else (bif Nat.blt M 84 then ((1068, 120, 1066, 1067)) else ((1377, 120, 1375, 1376))))) else (bif Nat.blt M 87 then (bif Nat.blt M 86 then ((1064, 120, 1062, 1063)) else ((1095, 120, 1093, 1094))) else (bif Nat.blt M 88 then ((1424, 120, 1422, 1423)) else (bif Nat.blt M 89 then ((1267, 120, 1265, 1266)) else ((582, 120, 581, 5)))))) else (bif Nat.blt M 95 then (bif Nat.blt M 92 then (bif Nat.blt M 91 then ((1158, 120, 1156, 1157)) else ((574, 120, 573, 3))) else (bif Nat.blt M 93 then ((1143, 120, 1141, 1142)) else (bif Nat.blt M 94 then ((1180, 120, 1178, 1179)) else ((1450, 120, 1449, 50))))) else (bif Nat.blt M 97 then (bif Nat.blt M 96 then ((632, 120, 630, 631)) else ((661, 120, 659, 660))) else (bif Nat.blt M 98 then ((560, 120, 559, 2)) else (bif Nat.blt M 99 then ((1072, 120, 1070, 1071)) else ((1295, 120, 1293, 1294))))))) else (bif Nat.blt M 110 then (bif Nat.blt M 105 then (bif Nat.blt M 102 then (bif Nat.blt M 101 then ((545, 120, 543, 544)) else ((657, 120, 655, 656))) else (bif Nat.blt M 103 then ((549, 120, 547, 548)) else (bif Nat.blt M 104 then ((320, 119, 319, 0)) else ((669, 119, 667, 668))))) else (bif Nat.blt M 107 then (bif Nat.blt M 106 then ((1381, 119, 1379, 1380)) else ((694, 119, 692, 693))) else (bif Nat.blt M 108 then ((1367, 119, 1365, 1366)) else (bif Nat.blt M 109 then ((296, 117, 295, 0)) else ((1010, 117, 1008, 1009)))))) else (bif Nat.blt M 115 then (bif Nat.blt M 112 then (bif Nat.blt M 111 then ((681, 117, 679, 680)) else ((519, 117, 517, 518))) else (bif Nat.blt M 113 then ((608, 117, 606, 607)) else (bif Nat.blt M 114 then ((383, 122, 382, 0)) else ((1322, 122, 1321, 42))))) else (bif Nat.blt M 117 then (bif Nat.blt M 116 then ((628, 122, 626, 627)) else ((1313, 122, 1311, 1312))) else (bif Nat.blt M 118 then ((637, 122, 636, 10)) else (bif Nat.blt M 119 then ((145, 114, 144, 0)) else ((1201, 114, 1200, 41)))))))) else (bif Nat.blt M 140 then (bif Nat.blt M 130 then (bif Nat.blt M 125 then (bif Nat.blt M 122 then (bif Nat.blt M 121 then ((1150, 114, 1148, 1149)) else ((1055, 114, 1053, 1054))) else (bif Nat.blt M 123 then ((1256, 114, 1254, 1255)) else (bif Nat.blt M 124 then ((1330, 114, 1328, 1329)) else ((1309, 114, 1307, 1308))))) else (bif Nat.blt M 127 then (bif Nat.blt M 126 then ((1023, 114, 1021, 1022)) else ((507, 114, 505, 506))) else (bif Nat.blt M 128 then ((1231, 114, 1229, 1230)) else (bif Nat.blt M 129 then ((1238, 114, 1236, 1237)) else ((503, 114, 501, 502)))))) else (bif Nat.blt M 135 then (bif Nat.blt M 132 then (bif Nat.blt M 131 then ((491, 114, 489, 490)) else ((1249, 114, 1247, 1248))) else (bif Nat.blt M 133 then ((673, 114, 671, 672)) else (bif Nat.blt M 134 then ((1290, 114, 1288, 1289)) else ((1419, 114, 1417, 1418))))) else (bif Nat.blt M 137 then (bif Nat.blt M 136 then ((1220, 114, 1218, 1219)) else ((677, 114, 675, 676))) else (bif Nat.blt M 138 then ((1402, 114, 1400, 1401)) else (bif Nat.blt M 139 then ((1302, 114, 1300, 1301)) else ((1059, 114, 1058, 36))))))) else (bif Nat.blt M 150 then (bif Nat.blt M 145 then (bif Nat.blt M 142 then (bif Nat.blt M 141 then ((1196, 114, 1195, 40)) else ((1111, 114, 1110, 38))) else (bif Nat.blt M 143 then ((1089, 114, 1088, 37)) else (bif Nat.blt M 144 then ((1191, 114, 1190, 39)) else ((616, 114, 614, 615))))) else (bif Nat.blt M 147 then (bif Nat.blt M 146 then ((708, 114, 706, 707)) else ((1128, 114, 1126, 1127))) else (bif Nat.blt M 148 then ((515, 114, 514, 0)) else (bif Nat.blt M 149 then ((1139, 114, 1137, 1138)) else ((700, 114, 698, 699)))))) else (bif Nat.blt M 155 then (bif Nat.blt M 152 then (bif Nat.blt M 151 then ((1263, 114, 1261, 1262)) else ((1209, 114, 1207, 1208))) else (bif Nat.blt M 153 then ((665, 114, 663, 664)) else (bif Nat.blt M 154 then ((624, 114, 622, 623)) else ((1435, 114, 1433, 1434))))) else (bif Nat.blt M 158 then (bif Nat.blt M 156 then ((1107, 114, 1105, 1106)) else (bif Nat.blt M 157 then ((1165, 114, 1163, 1164)) else ((604, 114, 602, 603)))) else (bif Nat.blt M 159 then ((1282, 114, 1280, 1281)) else (bif Nat.blt M 160 then ((1274, 114, 1272, 1273)) else ((1085, 114, 1083, 1084)))))))))) else (bif Nat.blt M 241 then (bif Nat.blt M 201 then (bif Nat.blt M 181 then (bif Nat.blt M 171 then (bif Nat.blt M 166 then (bif Nat.blt M 163 then (bif Nat.blt M 162 then ((1187, 114, 1185, 1186)) else ((1176, 114, 1174, 1175))) else (bif Nat.blt M 164 then ((643, 114, 641, 642)) else (bif Nat.blt M 165 then ((1358, 114, 1356, 1357)) else ((1460, 125, 1459, 0))))) else (bif Nat.blt M 168 then (bif Nat.blt M 167 then ((1862, 125, 1861, 88)) else ((1686, 125, 1685, 56))) else (bif Nat.blt M 169 then ((1746, 125, 1745, 70)) else (bif Nat.blt M 170 then ((1993, 125, 1992, 102)) else ((1900, 125, 1898, 1899)))))) else (bif Nat.blt M 176 then (bif Nat.blt M 173 then (bif Nat.blt M 172 then ((1790, 125, 1788, 1789)) else ((1969, 125, 1967, 1968))) else (bif Nat.blt M 174 then ((1782, 125, 1781, 76)) else (bif Nat.blt M 175 then ((2013, 125, 2011, 2012)) else ((1808, 125, 1807, 0))))) else (bif Nat.blt M 178 then (bif Nat.blt M 177 then ((1659, 125, 1658, 53)) else ((2035, 125, 2034, 107))) else (bif Nat.blt M 179 then ((2005, 125, 2003, 2004)) else (bif Nat.blt M 180 then ((2089, 125, 2088, 0)) else ((1766, 125, 1764, 1765))))))) else (bif Nat.blt M 191 then (bif Nat.blt M 186 then (bif Nat.blt M 183 then (bif Nat.blt M 182 then ((1778, 125, 1777, 75)) else ((1841, 125, 1839, 1840))) else (bif Nat.blt M 184 then ((2081, 125, 2080, 112)) else (bif Nat.blt M 185 then ((1886, 125, 1885, 94)) else ((1953, 125, 1951, 1952))))) else (bif Nat.blt M 188 then (bif Nat.blt M 187 then ((1957, 125, 1955, 1956)) else ((1651, 125, 1650, 51))) else (bif Nat.blt M 189 then ((1904, 125, 1903, 95)) else (bif Nat.blt M 190 then ((1762, 125, 1760, 1761)) else ((1643, 125, 1641, 1642)))))) else (bif Nat.blt M 196 then (bif Nat.blt M 193 then (bif Nat.blt M 192 then ((1961, 125, 1959, 1960)) else ((2065, 125, 2063, 2064))) else (bif Nat.blt M 194 then ((1989, 125, 1987, 1988)) else (bif Nat.blt M 195 then ((2073, 125, 2072, 111)) else ((2069, 125, 2067, 2068))))) else (bif Nat.blt M 198 then (bif Nat.blt M 197 then ((1858, 125, 1857, 87)) else ((1801, 125, 1800, 78))) else (bif Nat.blt M 199 then ((1949, 125, 1947, 1948)) else (bif Nat.blt M 200 then ((1832, 125, 1831, 83)) else ((1965, 125, 1964, 101)))))))) else (bif Nat.blt M 221 then (bif Nat.blt M 211 then (bif Nat.blt M 206 then (bif Nat.blt M 203 then (bif Nat.blt M 202 then ((2086, 125, 2084, 2085)) else ((1679, 125, 1678, 55))) else (bif Nat.blt M 204 then ((2049, 125, 2048, 108)) else (bif Nat.blt M 205 then ((1794, 125, 1793, 77)) else ((1665, 125, 1664, 0))))) else (bif Nat.blt M 208 then (bif Nat.blt M 207 then ((1797, 125, 1796, 0)) else ((1662, 125, 1661, 0))) else (bif Nat.blt M 209 then ((1670, 125, 1669, 0)) else (bif Nat.blt M 210 then ((1702, 125, 1701, 60)) else ((1785, 125, 1784, 0)))))) else (bif Nat.blt M 216 then (bif Nat.blt M 213 then (bif Nat.blt M 212 then ((1908, 125, 1907, 96)) else ((1827, 125, 1826, 82))) else (bif Nat.blt M 214 then ((1850, 125, 1849, 85)) else (bif Nat.blt M 215 then ((1727, 125, 1726, 66)) else ((1866, 125, 1865, 89))))) else (bif Nat.blt M 218 then (bif Nat.blt M 217 then ((2057, 125, 2055, 2056)) else ((1920, 125, 1919, 98))) else (bif Nat.blt M 219 then ((1735, 125, 1734, 68)) else (bif Nat.blt M 220 then ((2026, 125, 2025, 106)) else ((1997, 125, 1995, 1996))))))) else (bif Nat.blt M 231 then (bif Nat.blt M 226 then (bif Nat.blt M 223 then (bif Nat.blt M 222 then ((2022, 125, 2021, 105)) else ((1854, 125, 1853, 86))) else (bif Nat.blt M 224 then ((1973, 125, 1971, 1972)) else (bif Nat.blt M 225 then ((1647, 125, 1645, 1646)) else ((1891, 125, 1889, 1890))))) else (bif Nat.blt M 228 then (bif Nat.blt M 227 then ((1878, 125, 1877, 92)) else ((1706, 125, 1705, 61))) else (bif Nat.blt M 229 then ((1698, 125, 1697, 59)) else (bif Nat.blt M 230 then ((1674, 125, 1673, 54)) else ((1710, 125, 1709, 62)))))) else (bif Nat.blt M 236 then (bif Nat.blt M 233 then (bif Nat.blt M 232 then ((1690, 125, 1689, 57)) else ((1723, 125, 1722, 65))) else (bif Nat.blt M 234 then ((1719, 125, 1718, 64)) else (bif Nat.blt M 235 then ((1715, 125, 1714, 63)) else ((1819, 125, 1818, 0))))) else (bif Nat.blt M 238 then (bif Nat.blt M 237 then ((1846, 125, 1845, 84)) else ((1912, 125, 1911, 97))) else (bif Nat.blt M 239 then ((1896, 125, 1894, 1895)) else (bif Nat.blt M 240 then ((2093, 125, 2091, 2092)) else ((1977, 125, 1975, 1976))))))))) else (bif Nat.blt M 281 then (bif Nat.blt M 261 then (bif Nat.blt M 251 then (bif Nat.blt M 246 then (bif Nat.blt M 243 then (bif Nat.blt M 242 then ((1874, 125, 1873, 91)) else ((1941, 125, 1939, 1940))) else (bif Nat.blt M 244 then ((1945, 125, 1944, 100)) else (bif Nat.blt M 245 then ((1742, 125, 1741, 69)) else ((1694, 125, 1693, 58))))) else (bif Nat.blt M 248 then (bif Nat.blt M 247 then ((1751, 125, 1750, 71)) else ((2039, 125, 2037, 2038))) else (bif Nat.blt M 249 then ((2001, 125, 1999, 2000)) else (bif Nat.blt M 250 then ((1655, 125, 1654, 52)) else ((2077, 125, 2075, 2076)))))) else (bif Nat.blt M 256 then (bif Nat.blt M 253 then (bif Nat.blt M 252 then ((1836, 125, 1834, 1835)) else ((1805, 125, 1804, 79))) else (bif Nat.blt M 254 then ((2009, 125, 2008, 103)) else (bif Nat.blt M 255 then ((1916, 125, 1914, 1915)) else ((1758, 125, 1757, 0))))) else (bif Nat.blt M 258 then (bif Nat.blt M 257 then ((1755, 125, 1754, 72)) else ((1812, 125, 1811, 80))) else (bif Nat.blt M 259 then ((2053, 125, 2052, 109)) else (bif Nat.blt M 260 then ((2018, 125, 2017, 104)) else ((1770, 125, 1769, 73))))))) else (bif Nat.blt M 271 then (bif Nat.blt M 266 then (bif Nat.blt M 263 then (bif Nat.blt M 262 then ((1928, 125, 1926, 1927)) else ((2061, 125, 2060, 110))) else (bif Nat.blt M 264 then ((1932, 125, 1931, 99)) else (bif Nat.blt M 265 then ((1985, 125, 1983, 1984)) else ((1816, 125, 1815, 81))))) else (bif Nat.blt M 268 then (bif Nat.blt M 267 then ((1981, 125, 1979, 1980)) else ((1823, 125, 1821, 1822))) else (bif Nat.blt M 269 then ((1882, 125, 1881, 93)) else (bif Nat.blt M 270 then ((1870, 125, 1869, 90)) else ((1936, 125, 1934, 1935)))))) else (bif Nat.blt M 276 then (bif Nat.blt M 273 then (bif Nat.blt M 272 then ((1774, 125, 1773, 74)) else ((1731, 125, 1730, 67))) else (bif Nat.blt M 274 then ((1924, 125, 1922, 1923)) else (bif Nat.blt M 275 then ((2031, 125, 2029, 2030)) else ((2045, 125, 2043, 2044))))) else (bif Nat.blt M 278 then (bif Nat.blt M 277 then ((556, 138, 555, 0)) else ((563, 139, 562, 0))) else (bif Nat.blt M 279 then ((1316, 139, 1315, 0)) else (bif Nat.blt M 280 then ((1409, 140, 1408, 0)) else ((346, 121, 345, 0)))))))) else (bif Nat.blt M 301 then (bif Nat.blt M 291 then (bif Nat.blt M 286 then (bif Nat.blt M 283 then (bif Nat.blt M 282 then ((1389, 121, 1388, 0)) else ((896, 130, 894, 895))) else (bif Nat.blt M 284 then ((902, 130, 901, 0)) else (bif Nat.blt M 285 then ((820, 130, 818, 819)) else ((802, 130, 800, 801))))) else (bif Nat.blt M 288 then (bif Nat.blt M 287 then ((806, 130, 804, 805)) else ((810, 130, 808, 809))) else (bif Nat.blt M 289 then ((816, 130, 814, 815)) else (bif Nat.blt M 290 then ((826, 131, 825, 0)) else ((899, 131, 898, 0)))))) else (bif Nat.blt M 296 then (bif Nat.blt M 293 then (bif Nat.blt M 292 then ((823, 131, 822, 0)) else ((833, 131, 832, 0))) else (bif Nat.blt M 294 then ((905, 134, 904, 0)) else (bif Nat.blt M 295 then ((1146, 113, 1145, 0)) else ((1051, 113, 1050, 0))))) else (bif Nat.blt M 298 then (bif Nat.blt M 297 then ((1252, 113, 1251, 0)) else ((1326, 113, 1325, 0))) else (bif Nat.blt M 299 then ((1305, 113, 1304, 0)) else (bif Nat.blt M 300 then ((1018, 113, 1017, 0)) else ((1227, 113, 1226, 0))))))) else (bif Nat.blt M 311 then (bif Nat.blt M 306 then (bif Nat.blt M 303 then (bif Nat.blt M 302 then ((1234, 113, 1233, 0)) else ((1245, 113, 1244, 0))) else (bif Nat.blt M 304 then ((1286, 113, 1285, 0)) else (bif Nat.blt M 305 then ((1415, 113, 1414, 0)) else ((1216, 113, 1215, 0))))) else (bif Nat.blt M 308 then (bif Nat.blt M 307 then ((1398, 113, 1397, 0)) else ((1298, 113, 1297, 0))) else (bif Nat.blt M 309 then ((703, 113, 702, 0)) else (bif Nat.blt M 310 then ((1124, 113, 1123, 0)) else ((1135, 113, 1134, 0)))))) else (bif Nat.blt M 316 then (bif Nat.blt M 313 then (bif Nat.blt M 312 then ((1259, 113, 1258, 0)) else ((1205, 113, 1204, 0))) else (bif Nat.blt M 314 then ((1431, 113, 1430, 0)) else (bif Nat.blt M 315 then ((1103, 113, 1102, 0)) else ((1161, 113, 1160, 0))))) else (bif Nat.blt M 319 then (bif Nat.blt M 317 then ((1278, 113, 1277, 0)) else (bif Nat.blt M 318 then ((1270, 113, 1269, 0)) else ((1081, 113, 1080, 0)))) else (bif Nat.blt M 320 then ((1183, 113, 1182, 0)) else (bif Nat.blt M 321 then ((1172, 113, 1171, 0)) else ((1354, 113, 1353, 0))))))))))
def TSs : List (Nat × Nat × Nat × Nat × String) := [(1, 81, 83, 85, "the tape has not so many bytes"), (1, 81, 344, 85, "these two can't play"), (1, 81, 367, 85, "not so many days"), (2, 149, 151, 153, "no such count"), (2, 149, 182, 153, "a balcony has no such thing"), (2, 149, 196, 153, "a wall has no such thing"), (2, 149, 210, 153, "a street has no such thing"), (2, 149, 359, 153, "no such balcony"), (2, 149, 361, 153, "no such wall"), (2, 149, 363, 153, "no such street"), (2, 149, 365, 153, "no such thing is told")]
def strs : List (String × Nat × String) := TSs.map (fun q => (RX10, q.2.2.1, q.2.2.2.2)) ++ [(RX11, 11, "times"), (RX11, 13, "pots"), (RX11, 15, "iron"), (RX11, 17, "gone"), (RX11, 19, "beside"), (RX11, 21, "free"), (RX11, 23, "day")]
def nmsT : List String := ["java/lang/Exception"]
def AR : Nat × Nat × Nat × Nat × Nat × Nat × Nat × Nat := (251, 459, 289, 526, 525, 136, 147, 148)
def TP : Nat × Nat × Nat × Nat := (709, 129, 1033, 137)
def CKs : List (Nat × Nat × Nat) := [(704, 13, 1), (1019, 18, 2)]
def Zft (nb : Nat) (f : Nat → Option eQ) : Prop := ∀ pc, Nat.blt pc nb = false → f pc = none
theorem Zc {b : Bool} {n1 n2 : Nat} {f1 f2 : Nat → Option eQ} (h1 : Zft n1 f1) (h2 : Zft n2 f2) : Zft (bif b then n1 else n2) (bif b then f1 else f2) := by cases b; exact h2; exact h1
theorem zf_0 : Zft 14 ft_0 := fun pc h => by unfold ft_0; rw [h]; rfl
theorem zf_1 : Zft 11 ft_1 := fun pc h => by unfold ft_1; rw [h]; rfl
theorem zf_2 : Zft 35 ft_2 := fun pc h => by unfold ft_2; rw [h]; rfl
theorem zf_3 : Zft 54 ft_3 := fun pc h => by unfold ft_3; rw [h]; rfl
theorem zf_4 : Zft 62 ft_4 := fun pc h => by unfold ft_4; rw [h]; rfl
theorem zf_5 : Zft 31 ft_5 := fun pc h => by unfold ft_5; rw [h]; rfl
theorem zf_6 : Zft 69 ft_6 := fun pc h => by unfold ft_6; rw [h]; rfl
theorem zf_7 : Zft 112 ft_7 := fun pc h => by unfold ft_7; rw [h]; rfl
theorem zf_8 : Zft 57 ft_8 := fun pc h => by unfold ft_8; rw [h]; rfl
theorem zf_9 : Zft 27 ft_9 := fun pc h => by unfold ft_9; rw [h]; rfl
theorem zf_10 : Zft 81 ft_10 := fun pc h => by unfold ft_10; rw [h]; rfl
theorem zf_11 : Zft 34 ft_11 := fun pc h => by unfold ft_11; rw [h]; rfl
theorem zf_12 : Zft 72 ft_12 := fun pc h => by unfold ft_12; rw [h]; rfl
theorem zf_13 : Zft 63 ft_13 := fun pc h => by unfold ft_13; rw [h]; rfl
theorem zf_14 : Zft 81 ft_14 := fun pc h => by unfold ft_14; rw [h]; rfl
theorem zf_15 : Zft 151 ft_15 := fun pc h => by unfold ft_15; rw [h]; rfl
theorem zf_16 : Zft 81 ft_16 := fun pc h => by unfold ft_16; rw [h]; rfl
theorem zf_17 : Zft 99 ft_17 := fun pc h => by unfold ft_17; rw [h]; rfl
theorem zf_18 : Zft 137 ft_18 := fun pc h => by unfold ft_18; rw [h]; rfl
theorem zf_19 : Zft 96 ft_19 := fun pc h => by unfold ft_19; rw [h]; rfl
theorem zf_20 : Zft 43 ft_20 := fun pc h => by unfold ft_20; rw [h]; rfl
theorem zf_21 : Zft 173 ft_21 := fun pc h => by unfold ft_21; rw [h]; rfl
theorem zf_22 : Zft 90 ft_22 := fun pc h => by unfold ft_22; rw [h]; rfl
theorem zf_23 : Zft 25 ft_23 := fun pc h => by unfold ft_23; rw [h]; rfl
theorem zf_24 : Zft 23 ft_24 := fun pc h => by unfold ft_24; rw [h]; rfl
theorem zf_25 : Zft 30 ft_25 := fun pc h => by unfold ft_25; rw [h]; rfl
theorem zf_26 : Zft 50 ft_26 := fun pc h => by unfold ft_26; rw [h]; rfl
theorem zf_27 : Zft 16 ft_27 := fun pc h => by unfold ft_27; rw [h]; rfl
theorem zf_28 : Zft 15 ft_28 := fun pc h => by unfold ft_28; rw [h]; rfl
theorem zf_29 : Zft 19 ft_29 := fun pc h => by unfold ft_29; rw [h]; rfl
theorem zf_30 : Zft 18 ft_30 := fun pc h => by unfold ft_30; rw [h]; rfl
theorem zf_31 : Zft 18 ft_31 := fun pc h => by unfold ft_31; rw [h]; rfl
theorem zf_32 : Zft 63 ft_32 := fun pc h => by unfold ft_32; rw [h]; rfl
theorem zf_33 : Zft 182 ft_33 := fun pc h => by unfold ft_33; rw [h]; rfl
theorem zf_34 : Zft 79 ft_34 := fun pc h => by unfold ft_34; rw [h]; rfl
theorem zf_35 : Zft 63 ft_35 := fun pc h => by unfold ft_35; rw [h]; rfl
theorem zf_36 : Zft 120 ft_36 := fun pc h => by unfold ft_36; rw [h]; rfl
theorem zf_37 : Zft 20 ft_37 := fun pc h => by unfold ft_37; rw [h]; rfl
theorem zf_38 : Zft 116 ft_38 := fun pc h => by unfold ft_38; rw [h]; rfl
theorem zf_39 : Zft 82 ft_39 := fun pc h => by unfold ft_39; rw [h]; rfl
theorem zf_40 : Zft 60 ft_40 := fun pc h => by unfold ft_40; rw [h]; rfl
theorem zf_41 : Zft 104 ft_41 := fun pc h => by unfold ft_41; rw [h]; rfl
theorem zf_42 : Zft 132 ft_42 := fun pc h => by unfold ft_42; rw [h]; rfl
theorem zf_43 : Zft 90 ft_43 := fun pc h => by unfold ft_43; rw [h]; rfl
theorem zf_44 : Zft 87 ft_44 := fun pc h => by unfold ft_44; rw [h]; rfl
theorem zf_45 : Zft 90 ft_45 := fun pc h => by unfold ft_45; rw [h]; rfl
theorem zf_46 : Zft 73 ft_46 := fun pc h => by unfold ft_46; rw [h]; rfl
theorem zf_47 : Zft 133 ft_47 := fun pc h => by unfold ft_47; rw [h]; rfl
theorem zf_48 : Zft 85 ft_48 := fun pc h => by unfold ft_48; rw [h]; rfl
theorem zf_49 : Zft 23 ft_49 := fun pc h => by unfold ft_49; rw [h]; rfl
theorem zf_50 : Zft 47 ft_50 := fun pc h => by unfold ft_50; rw [h]; rfl
theorem zf_51 : Zft 89 ft_51 := fun pc h => by unfold ft_51; rw [h]; rfl
theorem zf_52 : Zft 87 ft_52 := fun pc h => by unfold ft_52; rw [h]; rfl
theorem zf_53 : Zft 30 ft_53 := fun pc h => by unfold ft_53; rw [h]; rfl
theorem zf_54 : Zft 127 ft_54 := fun pc h => by unfold ft_54; rw [h]; rfl
theorem zf_55 : Zft 114 ft_55 := fun pc h => by unfold ft_55; rw [h]; rfl
theorem zf_56 : Zft 16 ft_56 := fun pc h => by unfold ft_56; rw [h]; rfl
theorem zf_57 : Zft 7 ft_57 := fun pc h => by unfold ft_57; rw [h]; rfl
theorem zf_58 : Zft 10 ft_58 := fun pc h => by unfold ft_58; rw [h]; rfl
theorem zf_59 : Zft 41 ft_59 := fun pc h => by unfold ft_59; rw [h]; rfl
theorem zf_60 : Zft 33 ft_60 := fun pc h => by unfold ft_60; rw [h]; rfl
theorem zf_61 : Zft 35 ft_61 := fun pc h => by unfold ft_61; rw [h]; rfl
theorem zf_62 : Zft 19 ft_62 := fun pc h => by unfold ft_62; rw [h]; rfl
theorem zf_63 : Zft 95 ft_63 := fun pc h => by unfold ft_63; rw [h]; rfl
theorem zf_64 : Zft 22 ft_64 := fun pc h => by unfold ft_64; rw [h]; rfl
theorem zf_65 : Zft 114 ft_65 := fun pc h => by unfold ft_65; rw [h]; rfl
theorem zf_66 : Zft 11 ft_66 := fun pc h => by unfold ft_66; rw [h]; rfl
theorem zf_67 : Zft 10 ft_67 := fun pc h => by unfold ft_67; rw [h]; rfl
theorem zf_68 : Zft 40 ft_68 := fun pc h => by unfold ft_68; rw [h]; rfl
theorem zf_69 : Zft 65 ft_69 := fun pc h => by unfold ft_69; rw [h]; rfl
theorem zf_70 : Zft 36 ft_70 := fun pc h => by unfold ft_70; rw [h]; rfl
theorem zf_71 : Zft 32 ft_71 := fun pc h => by unfold ft_71; rw [h]; rfl
theorem zf_72 : Zft 72 ft_72 := fun pc h => by unfold ft_72; rw [h]; rfl
theorem zf_73 : Zft 7 ft_73 := fun pc h => by unfold ft_73; rw [h]; rfl
theorem zf_74 : Zft 9 ft_74 := fun pc h => by unfold ft_74; rw [h]; rfl
theorem zf_75 : Zft 28 ft_75 := fun pc h => by unfold ft_75; rw [h]; rfl
theorem zf_76 : Zft 126 ft_76 := fun pc h => by unfold ft_76; rw [h]; rfl
theorem zf_77 : Zft 80 ft_77 := fun pc h => by unfold ft_77; rw [h]; rfl
theorem zf_78 : Zft 9 ft_78 := fun pc h => by unfold ft_78; rw [h]; rfl
theorem zf_79 : Zft 57 ft_79 := fun pc h => by unfold ft_79; rw [h]; rfl
theorem zf_80 : Zft 52 ft_80 := fun pc h => by unfold ft_80; rw [h]; rfl
theorem zf_81 : Zft 18 ft_81 := fun pc h => by unfold ft_81; rw [h]; rfl
theorem zf_82 : Zft 66 ft_82 := fun pc h => by unfold ft_82; rw [h]; rfl
theorem zf_83 : Zft 10 ft_83 := fun pc h => by unfold ft_83; rw [h]; rfl
theorem zf_84 : Zft 52 ft_84 := fun pc h => by unfold ft_84; rw [h]; rfl
theorem zf_85 : Zft 10 ft_85 := fun pc h => by unfold ft_85; rw [h]; rfl
theorem zf_86 : Zft 10 ft_86 := fun pc h => by unfold ft_86; rw [h]; rfl
theorem zf_87 : Zft 100 ft_87 := fun pc h => by unfold ft_87; rw [h]; rfl
theorem zf_88 : Zft 42 ft_88 := fun pc h => by unfold ft_88; rw [h]; rfl
theorem zf_89 : Zft 96 ft_89 := fun pc h => by unfold ft_89; rw [h]; rfl
theorem zf_90 : Zft 19 ft_90 := fun pc h => by unfold ft_90; rw [h]; rfl
theorem zf_91 : Zft 25 ft_91 := fun pc h => by unfold ft_91; rw [h]; rfl
theorem zf_92 : Zft 11 ft_92 := fun pc h => by unfold ft_92; rw [h]; rfl
theorem zf_93 : Zft 11 ft_93 := fun pc h => by unfold ft_93; rw [h]; rfl
theorem zf_94 : Zft 19 ft_94 := fun pc h => by unfold ft_94; rw [h]; rfl
theorem zf_95 : Zft 9 ft_95 := fun pc h => by unfold ft_95; rw [h]; rfl
theorem zf_96 : Zft 16 ft_96 := fun pc h => by unfold ft_96; rw [h]; rfl
theorem zf_97 : Zft 166 ft_97 := fun pc h => by unfold ft_97; rw [h]; rfl
theorem zf_98 : Zft 10 ft_98 := fun pc h => by unfold ft_98; rw [h]; rfl
theorem zf_99 : Zft 48 ft_99 := fun pc h => by unfold ft_99; rw [h]; rfl
theorem zf_100 : Zft 20 ft_100 := fun pc h => by unfold ft_100; rw [h]; rfl
theorem zf_101 : Zft 10 ft_101 := fun pc h => by unfold ft_101; rw [h]; rfl
theorem zf_102 : Zft 196 ft_102 := fun pc h => by unfold ft_102; rw [h]; rfl
theorem zf_103 : Zft 21 ft_103 := fun pc h => by unfold ft_103; rw [h]; rfl
theorem zf_104 : Zft 64 ft_104 := fun pc h => by unfold ft_104; rw [h]; rfl
theorem zf_105 : Zft 40 ft_105 := fun pc h => by unfold ft_105; rw [h]; rfl
theorem zf_106 : Zft 39 ft_106 := fun pc h => by unfold ft_106; rw [h]; rfl
theorem zf_107 : Zft 31 ft_107 := fun pc h => by unfold ft_107; rw [h]; rfl
theorem zf_108 : Zft 46 ft_108 := fun pc h => by unfold ft_108; rw [h]; rfl
theorem zf_109 : Zft 23 ft_109 := fun pc h => by unfold ft_109; rw [h]; rfl
theorem zf_110 : Zft 48 ft_110 := fun pc h => by unfold ft_110; rw [h]; rfl
theorem zf_111 : Zft 12 ft_111 := fun pc h => by unfold ft_111; rw [h]; rfl
theorem zf_112 : Zft 31 ft_112 := fun pc h => by unfold ft_112; rw [h]; rfl
theorem zf_113 : Zft 19 ft_113 := fun pc h => by unfold ft_113; rw [h]; rfl
theorem zf_114 : Zft 73 ft_114 := fun pc h => by unfold ft_114; rw [h]; rfl
theorem zf_115 : Zft 114 ft_115 := fun pc h => by unfold ft_115; rw [h]; rfl
theorem zf_116 : Zft 89 ft_116 := fun pc h => by unfold ft_116; rw [h]; rfl
theorem zf_117 : Zft 112 ft_117 := fun pc h => by unfold ft_117; rw [h]; rfl
theorem zf_118 : Zft 126 ft_118 := fun pc h => by unfold ft_118; rw [h]; rfl
theorem zf_119 : Zft 27 ft_119 := fun pc h => by unfold ft_119; rw [h]; rfl
theorem zf_120 : Zft 46 ft_120 := fun pc h => by unfold ft_120; rw [h]; rfl
theorem zf_121 : Zft 160 ft_121 := fun pc h => by unfold ft_121; rw [h]; rfl
theorem zf_122 : Zft 15 ft_122 := fun pc h => by unfold ft_122; rw [h]; rfl
theorem zf_123 : Zft 49 ft_123 := fun pc h => by unfold ft_123; rw [h]; rfl
theorem zf_124 : Zft 42 ft_124 := fun pc h => by unfold ft_124; rw [h]; rfl
theorem zf_125 : Zft 258 ft_125 := fun pc h => by unfold ft_125; rw [h]; rfl
theorem zf_126 : Zft 63 ft_126 := fun pc h => by unfold ft_126; rw [h]; rfl
theorem zf_127 : Zft 32 ft_127 := fun pc h => by unfold ft_127; rw [h]; rfl
theorem zf_128 : Zft 28 ft_128 := fun pc h => by unfold ft_128; rw [h]; rfl
theorem zf_129 : Zft 8 ft_129 := fun pc h => by unfold ft_129; rw [h]; rfl
theorem zf_130 : Zft 62 ft_130 := fun pc h => by unfold ft_130; rw [h]; rfl
theorem zf_131 : Zft 66 ft_131 := fun pc h => by unfold ft_131; rw [h]; rfl
theorem zf_132 : Zft 12 ft_132 := fun pc h => by unfold ft_132; rw [h]; rfl
theorem zf_133 : Zft 78 ft_133 := fun pc h => by unfold ft_133; rw [h]; rfl
theorem zf_134 : Zft 146 ft_134 := fun pc h => by unfold ft_134; rw [h]; rfl
theorem zf_135 : Zft 28 ft_135 := fun pc h => by unfold ft_135; rw [h]; rfl
theorem zf_136 : Zft 17 ft_136 := fun pc h => by unfold ft_136; rw [h]; rfl
theorem zf_137 : Zft 48 ft_137 := fun pc h => by unfold ft_137; rw [h]; rfl
theorem zf_138 : Zft 90 ft_138 := fun pc h => by unfold ft_138; rw [h]; rfl
theorem zf_139 : Zft 27 ft_139 := fun pc h => by unfold ft_139; rw [h]; rfl
theorem zf_140 : Zft 22 ft_140 := fun pc h => by unfold ft_140; rw [h]; rfl
theorem zf_141 : Zft 21 ft_141 := fun pc h => by unfold ft_141; rw [h]; rfl
theorem zf_142 : Zft 27 ft_142 := fun pc h => by unfold ft_142; rw [h]; rfl
theorem zf_143 : Zft 21 ft_143 := fun pc h => by unfold ft_143; rw [h]; rfl
theorem zf_144 : Zft 11 ft_144 := fun pc h => by unfold ft_144; rw [h]; rfl
theorem zf_145 : Zft 81 ft_145 := fun pc h => by unfold ft_145; rw [h]; rfl
theorem zf_146 : Zft 53 ft_146 := fun pc h => by unfold ft_146; rw [h]; rfl
theorem zf_147 : Zft 15 ft_147 := fun pc h => by unfold ft_147; rw [h]; rfl
theorem zf_148 : Zft 53 ft_148 := fun pc h => by unfold ft_148; rw [h]; rfl
theorem zf_149 : Zft 23 ft_149 := fun pc h => by unfold ft_149; rw [h]; rfl
theorem zf_150 : Zft 14 ft_150 := fun pc h => by unfold ft_150; rw [h]; rfl
theorem zf_151 : Zft 30 ft_151 := fun pc h => by unfold ft_151; rw [h]; rfl
theorem zf_152 : Zft 43 ft_152 := fun pc h => by unfold ft_152; rw [h]; rfl
theorem zf_153 : Zft 15 ft_153 := fun pc h => by unfold ft_153; rw [h]; rfl
theorem zf_154 : Zft 67 ft_154 := fun pc h => by unfold ft_154; rw [h]; rfl
theorem zf_155 : Zft 76 ft_155 := fun pc h => by unfold ft_155; rw [h]; rfl
theorem zf_156 : Zft 47 ft_156 := fun pc h => by unfold ft_156; rw [h]; rfl
theorem zf_157 : Zft 8 ft_157 := fun pc h => by unfold ft_157; rw [h]; rfl
theorem zf_158 : Zft 14 ft_158 := fun pc h => by unfold ft_158; rw [h]; rfl
theorem zf_159 : Zft 18 ft_159 := fun pc h => by unfold ft_159; rw [h]; rfl
theorem zf_160 : Zft 78 ft_160 := fun pc h => by unfold ft_160; rw [h]; rfl
theorem zf_161 : Zft 43 ft_161 := fun pc h => by unfold ft_161; rw [h]; rfl
theorem zf_162 : Zft 54 ft_162 := fun pc h => by unfold ft_162; rw [h]; rfl
theorem zf_163 : Zft 15 ft_163 := fun pc h => by unfold ft_163; rw [h]; rfl
theorem zf_164 : Zft 74 ft_164 := fun pc h => by unfold ft_164; rw [h]; rfl
theorem zf_165 : Zft 362 ft_165 := fun pc h => by unfold ft_165; rw [h]; rfl
theorem zf_166 : Zft 41 ft_166 := fun pc h => by unfold ft_166; rw [h]; rfl
theorem zf_167 : Zft 22 ft_167 := fun pc h => by unfold ft_167; rw [h]; rfl
theorem zf_168 : Zft 33 ft_168 := fun pc h => by unfold ft_168; rw [h]; rfl
theorem zf_169 : Zft 57 ft_169 := fun pc h => by unfold ft_169; rw [h]; rfl
theorem zf_170 : Zft 76 ft_170 := fun pc h => by unfold ft_170; rw [h]; rfl
theorem zf_171 : Zft 151 ft_171 := fun pc h => by unfold ft_171; rw [h]; rfl
theorem zf_172 : Zft 27 ft_172 := fun pc h => by unfold ft_172; rw [h]; rfl
theorem zf_173 : Zft 112 ft_173 := fun pc h => by unfold ft_173; rw [h]; rfl
theorem zf_174 : Zft 145 ft_174 := fun pc h => by unfold ft_174; rw [h]; rfl
theorem zf_175 : Zft 22 ft_175 := fun pc h => by unfold ft_175; rw [h]; rfl
theorem zf_176 : Zft 19 ft_176 := fun pc h => by unfold ft_176; rw [h]; rfl
theorem zf_177 : Zft 127 ft_177 := fun pc h => by unfold ft_177; rw [h]; rfl
theorem zf_178 : Zft 127 ft_178 := fun pc h => by unfold ft_178; rw [h]; rfl
theorem zf_179 : Zft 21 ft_179 := fun pc h => by unfold ft_179; rw [h]; rfl
theorem zf_180 : Zft 163 ft_180 := fun pc h => by unfold ft_180; rw [h]; rfl
theorem zf_181 : Zft 157 ft_181 := fun pc h => by unfold ft_181; rw [h]; rfl
theorem zf_182 : Zft 49 ft_182 := fun pc h => by unfold ft_182; rw [h]; rfl
theorem zf_183 : Zft 30 ft_183 := fun pc h => by unfold ft_183; rw [h]; rfl
theorem zf_184 : Zft 76 ft_184 := fun pc h => by unfold ft_184; rw [h]; rfl
theorem zf_185 : Zft 84 ft_185 := fun pc h => by unfold ft_185; rw [h]; rfl
theorem zf_186 : Zft 89 ft_186 := fun pc h => by unfold ft_186; rw [h]; rfl
theorem zf_187 : Zft 7 ft_187 := fun pc h => by unfold ft_187; rw [h]; rfl
theorem zf_188 : Zft 7 ft_188 := fun pc h => by unfold ft_188; rw [h]; rfl
theorem zf_189 : Zft 10 ft_189 := fun pc h => by unfold ft_189; rw [h]; rfl
theorem zf_190 : Zft 125 ft_190 := fun pc h => by unfold ft_190; rw [h]; rfl
theorem zf_191 : Zft 57 ft_191 := fun pc h => by unfold ft_191; rw [h]; rfl
theorem zf_192 : Zft 11 ft_192 := fun pc h => by unfold ft_192; rw [h]; rfl
theorem zf_193 : Zft 93 ft_193 := fun pc h => by unfold ft_193; rw [h]; rfl
theorem zf_194 : Zft 90 ft_194 := fun pc h => by unfold ft_194; rw [h]; rfl
theorem zf_195 : Zft 200 ft_195 := fun pc h => by unfold ft_195; rw [h]; rfl
theorem zf_196 : Zft 18 ft_196 := fun pc h => by unfold ft_196; rw [h]; rfl
theorem zf_197 : Zft 161 ft_197 := fun pc h => by unfold ft_197; rw [h]; rfl
theorem zf_198 : Zft 76 ft_198 := fun pc h => by unfold ft_198; rw [h]; rfl
theorem zf_199 : Zft 42 ft_199 := fun pc h => by unfold ft_199; rw [h]; rfl
theorem zf_200 : Zft 22 ft_200 := fun pc h => by unfold ft_200; rw [h]; rfl
theorem zf_201 : Zft 80 ft_201 := fun pc h => by unfold ft_201; rw [h]; rfl
theorem zf_202 : Zft 84 ft_202 := fun pc h => by unfold ft_202; rw [h]; rfl
theorem zf_203 : Zft 94 ft_203 := fun pc h => by unfold ft_203; rw [h]; rfl
theorem zf_204 : Zft 16 ft_204 := fun pc h => by unfold ft_204; rw [h]; rfl
theorem zf_205 : Zft 18 ft_205 := fun pc h => by unfold ft_205; rw [h]; rfl
theorem zf_206 : Zft 19 ft_206 := fun pc h => by unfold ft_206; rw [h]; rfl
theorem zf_207 : Zft 18 ft_207 := fun pc h => by unfold ft_207; rw [h]; rfl
theorem zf_208 : Zft 60 ft_208 := fun pc h => by unfold ft_208; rw [h]; rfl
theorem zf_209 : Zft 34 ft_209 := fun pc h => by unfold ft_209; rw [h]; rfl
theorem zf_210 : Zft 15 ft_210 := fun pc h => by unfold ft_210; rw [h]; rfl
theorem zf_211 : Zft 26 ft_211 := fun pc h => by unfold ft_211; rw [h]; rfl
theorem zf_212 : Zft 16 ft_212 := fun pc h => by unfold ft_212; rw [h]; rfl
theorem zf_213 : Zft 78 ft_213 := fun pc h => by unfold ft_213; rw [h]; rfl
theorem zf_214 : Zft 37 ft_214 := fun pc h => by unfold ft_214; rw [h]; rfl
theorem zf_215 : Zft 82 ft_215 := fun pc h => by unfold ft_215; rw [h]; rfl
theorem zf_216 : Zft 170 ft_216 := fun pc h => by unfold ft_216; rw [h]; rfl
theorem zf_217 : Zft 36 ft_217 := fun pc h => by unfold ft_217; rw [h]; rfl
theorem zf_218 : Zft 32 ft_218 := fun pc h => by unfold ft_218; rw [h]; rfl
theorem zf_219 : Zft 37 ft_219 := fun pc h => by unfold ft_219; rw [h]; rfl
theorem zf_220 : Zft 98 ft_220 := fun pc h => by unfold ft_220; rw [h]; rfl
theorem zf_221 : Zft 44 ft_221 := fun pc h => by unfold ft_221; rw [h]; rfl
theorem zf_222 : Zft 177 ft_222 := fun pc h => by unfold ft_222; rw [h]; rfl
theorem zf_223 : Zft 11 ft_223 := fun pc h => by unfold ft_223; rw [h]; rfl
theorem zf_224 : Zft 165 ft_224 := fun pc h => by unfold ft_224; rw [h]; rfl
theorem zf_225 : Zft 57 ft_225 := fun pc h => by unfold ft_225; rw [h]; rfl
theorem zf_226 : Zft 61 ft_226 := fun pc h => by unfold ft_226; rw [h]; rfl
theorem zf_227 : Zft 33 ft_227 := fun pc h => by unfold ft_227; rw [h]; rfl
theorem zf_228 : Zft 95 ft_228 := fun pc h => by unfold ft_228; rw [h]; rfl
theorem zf_229 : Zft 186 ft_229 := fun pc h => by unfold ft_229; rw [h]; rfl
theorem zf_230 : Zft 113 ft_230 := fun pc h => by unfold ft_230; rw [h]; rfl
theorem zf_231 : Zft 88 ft_231 := fun pc h => by unfold ft_231; rw [h]; rfl
theorem zf_232 : Zft 95 ft_232 := fun pc h => by unfold ft_232; rw [h]; rfl
theorem zf_233 : Zft 58 ft_233 := fun pc h => by unfold ft_233; rw [h]; rfl
theorem zf_234 : Zft 58 ft_234 := fun pc h => by unfold ft_234; rw [h]; rfl
theorem zf_235 : Zft 118 ft_235 := fun pc h => by unfold ft_235; rw [h]; rfl
theorem zf_236 : Zft 12 ft_236 := fun pc h => by unfold ft_236; rw [h]; rfl
theorem zf_237 : Zft 12 ft_237 := fun pc h => by unfold ft_237; rw [h]; rfl
theorem zf_238 : Zft 57 ft_238 := fun pc h => by unfold ft_238; rw [h]; rfl
theorem zf_239 : Zft 85 ft_239 := fun pc h => by unfold ft_239; rw [h]; rfl
theorem zf_240 : Zft 92 ft_240 := fun pc h => by unfold ft_240; rw [h]; rfl
theorem zf_241 : Zft 90 ft_241 := fun pc h => by unfold ft_241; rw [h]; rfl
theorem zf_242 : Zft 27 ft_242 := fun pc h => by unfold ft_242; rw [h]; rfl
theorem zf_243 : Zft 56 ft_243 := fun pc h => by unfold ft_243; rw [h]; rfl
theorem zf_244 : Zft 85 ft_244 := fun pc h => by unfold ft_244; rw [h]; rfl
theorem zf_245 : Zft 95 ft_245 := fun pc h => by unfold ft_245; rw [h]; rfl
theorem zf_246 : Zft 60 ft_246 := fun pc h => by unfold ft_246; rw [h]; rfl
theorem zf_247 : Zft 79 ft_247 := fun pc h => by unfold ft_247; rw [h]; rfl
theorem zf_248 : Zft 284 ft_248 := fun pc h => by unfold ft_248; rw [h]; rfl
theorem zf_249 : Zft 221 ft_249 := fun pc h => by unfold ft_249; rw [h]; rfl
theorem zf_250 : Zft 201 ft_250 := fun pc h => by unfold ft_250; rw [h]; rfl
theorem zf_251 : Zft 86 ft_251 := fun pc h => by unfold ft_251; rw [h]; rfl
theorem zf_252 : Zft 42 ft_252 := fun pc h => by unfold ft_252; rw [h]; rfl
theorem zf_253 : Zft 60 ft_253 := fun pc h => by unfold ft_253; rw [h]; rfl
theorem zf_254 : Zft 45 ft_254 := fun pc h => by unfold ft_254; rw [h]; rfl
theorem zf_255 : Zft 28 ft_255 := fun pc h => by unfold ft_255; rw [h]; rfl
theorem zf_256 : Zft 208 ft_256 := fun pc h => by unfold ft_256; rw [h]; rfl
theorem zf_257 : Zft 47 ft_257 := fun pc h => by unfold ft_257; rw [h]; rfl
theorem zf_258 : Zft 99 ft_258 := fun pc h => by unfold ft_258; rw [h]; rfl
theorem zf_259 : Zft 141 ft_259 := fun pc h => by unfold ft_259; rw [h]; rfl
theorem zf_260 : Zft 27 ft_260 := fun pc h => by unfold ft_260; rw [h]; rfl
theorem zf_261 : Zft 44 ft_261 := fun pc h => by unfold ft_261; rw [h]; rfl
theorem zf_262 : Zft 89 ft_262 := fun pc h => by unfold ft_262; rw [h]; rfl
theorem zf_263 : Zft 177 ft_263 := fun pc h => by unfold ft_263; rw [h]; rfl
theorem zf_264 : Zft 66 ft_264 := fun pc h => by unfold ft_264; rw [h]; rfl
theorem zf_265 : Zft 131 ft_265 := fun pc h => by unfold ft_265; rw [h]; rfl
theorem zf_266 : Zft 57 ft_266 := fun pc h => by unfold ft_266; rw [h]; rfl
theorem zf_267 : Zft 64 ft_267 := fun pc h => by unfold ft_267; rw [h]; rfl
theorem zf_268 : Zft 78 ft_268 := fun pc h => by unfold ft_268; rw [h]; rfl
theorem zf_269 : Zft 14 ft_269 := fun pc h => by unfold ft_269; rw [h]; rfl
theorem zf_270 : Zft 93 ft_270 := fun pc h => by unfold ft_270; rw [h]; rfl
theorem zf_271 : Zft 42 ft_271 := fun pc h => by unfold ft_271; rw [h]; rfl
theorem zf_272 : Zft 28 ft_272 := fun pc h => by unfold ft_272; rw [h]; rfl
theorem zf_273 : Zft 57 ft_273 := fun pc h => by unfold ft_273; rw [h]; rfl
theorem zf_274 : Zft 55 ft_274 := fun pc h => by unfold ft_274; rw [h]; rfl
theorem zf_275 : Zft 74 ft_275 := fun pc h => by unfold ft_275; rw [h]; rfl
theorem zf_276 : Zft 118 ft_276 := fun pc h => by unfold ft_276; rw [h]; rfl
theorem zf_277 : Zft 53 ft_277 := fun pc h => by unfold ft_277; rw [h]; rfl
theorem zf_278 : Zft 80 ft_278 := fun pc h => by unfold ft_278; rw [h]; rfl
theorem zf_279 : Zft 61 ft_279 := fun pc h => by unfold ft_279; rw [h]; rfl
theorem zf_280 : Zft 21 ft_280 := fun pc h => by unfold ft_280; rw [h]; rfl
theorem zf_281 : Zft 23 ft_281 := fun pc h => by unfold ft_281; rw [h]; rfl
theorem zf_282 : Zft 25 ft_282 := fun pc h => by unfold ft_282; rw [h]; rfl
theorem zf_283 : Zft 10 ft_283 := fun pc h => by unfold ft_283; rw [h]; rfl
theorem zf_284 : Zft 15 ft_284 := fun pc h => by unfold ft_284; rw [h]; rfl
theorem zf_285 : Zft 7 ft_285 := fun pc h => by unfold ft_285; rw [h]; rfl
theorem zf_286 : Zft 37 ft_286 := fun pc h => by unfold ft_286; rw [h]; rfl
theorem zf_287 : Zft 19 ft_287 := fun pc h => by unfold ft_287; rw [h]; rfl
theorem zf_288 : Zft 11 ft_288 := fun pc h => by unfold ft_288; rw [h]; rfl
theorem zf_289 : Zft 17 ft_289 := fun pc h => by unfold ft_289; rw [h]; rfl
theorem zf_290 : Zft 15 ft_290 := fun pc h => by unfold ft_290; rw [h]; rfl
theorem zf_291 : Zft 37 ft_291 := fun pc h => by unfold ft_291; rw [h]; rfl
theorem zf_292 : Zft 33 ft_292 := fun pc h => by unfold ft_292; rw [h]; rfl
theorem zf_293 : Zft 18 ft_293 := fun pc h => by unfold ft_293; rw [h]; rfl
theorem zf_294 : Zft 24 ft_294 := fun pc h => by unfold ft_294; rw [h]; rfl
theorem zf_295 : Zft 19 ft_295 := fun pc h => by unfold ft_295; rw [h]; rfl
theorem zf_296 : Zft 17 ft_296 := fun pc h => by unfold ft_296; rw [h]; rfl
theorem zf_297 : Zft 17 ft_297 := fun pc h => by unfold ft_297; rw [h]; rfl
theorem zf_298 : Zft 17 ft_298 := fun pc h => by unfold ft_298; rw [h]; rfl
theorem zf_299 : Zft 17 ft_299 := fun pc h => by unfold ft_299; rw [h]; rfl
theorem zf_300 : Zft 23 ft_300 := fun pc h => by unfold ft_300; rw [h]; rfl
theorem zf_301 : Zft 17 ft_301 := fun pc h => by unfold ft_301; rw [h]; rfl
theorem zf_302 : Zft 17 ft_302 := fun pc h => by unfold ft_302; rw [h]; rfl
theorem zf_303 : Zft 17 ft_303 := fun pc h => by unfold ft_303; rw [h]; rfl
theorem zf_304 : Zft 27 ft_304 := fun pc h => by unfold ft_304; rw [h]; rfl
theorem zf_305 : Zft 17 ft_305 := fun pc h => by unfold ft_305; rw [h]; rfl
theorem zf_306 : Zft 17 ft_306 := fun pc h => by unfold ft_306; rw [h]; rfl
theorem zf_307 : Zft 17 ft_307 := fun pc h => by unfold ft_307; rw [h]; rfl
theorem zf_308 : Zft 17 ft_308 := fun pc h => by unfold ft_308; rw [h]; rfl
theorem zf_309 : Zft 19 ft_309 := fun pc h => by unfold ft_309; rw [h]; rfl
theorem zf_310 : Zft 19 ft_310 := fun pc h => by unfold ft_310; rw [h]; rfl
theorem zf_311 : Zft 17 ft_311 := fun pc h => by unfold ft_311; rw [h]; rfl
theorem zf_312 : Zft 17 ft_312 := fun pc h => by unfold ft_312; rw [h]; rfl
theorem zf_313 : Zft 25 ft_313 := fun pc h => by unfold ft_313; rw [h]; rfl
theorem zf_314 : Zft 19 ft_314 := fun pc h => by unfold ft_314; rw [h]; rfl
theorem zf_315 : Zft 24 ft_315 := fun pc h => by unfold ft_315; rw [h]; rfl
theorem zf_316 : Zft 17 ft_316 := fun pc h => by unfold ft_316; rw [h]; rfl
theorem zf_317 : Zft 17 ft_317 := fun pc h => by unfold ft_317; rw [h]; rfl
theorem zf_318 : Zft 19 ft_318 := fun pc h => by unfold ft_318; rw [h]; rfl
theorem zf_319 : Zft 25 ft_319 := fun pc h => by unfold ft_319; rw [h]; rfl
theorem zf_320 : Zft 19 ft_320 := fun pc h => by unfold ft_320; rw [h]; rfl
theorem zf_321 : Zft 17 ft_321 := fun pc h => by unfold ft_321; rw [h]; rfl
theorem zf_L : Zft 1407 ft_L := fun pc h => by unfold ft_L; rw [h]; rfl
theorem zf_all (M : Nat) : Zft (nbF M) (ftF M) := by
  unfold nbF ftF
  exact (Zc (Zc (Zc (Zc (Zc (Zc (Zc (Zc zf_0 zf_1) (Zc zf_2 (Zc zf_3 zf_4))) (Zc (Zc zf_5 zf_6) (Zc zf_7 (Zc zf_8 zf_9)))) (Zc (Zc (Zc zf_10 zf_11) (Zc zf_12 (Zc zf_13 zf_14))) (Zc (Zc zf_15 zf_16) (Zc zf_17 (Zc zf_18 zf_19))))) (Zc (Zc (Zc (Zc zf_20 zf_21) (Zc zf_22 (Zc zf_23 zf_24))) (Zc (Zc zf_25 zf_26) (Zc zf_27 (Zc zf_28 zf_29)))) (Zc (Zc (Zc zf_30 zf_31) (Zc zf_32 (Zc zf_33 zf_34))) (Zc (Zc zf_35 zf_36) (Zc zf_37 (Zc zf_38 zf_39)))))) (Zc (Zc (Zc (Zc (Zc zf_40 zf_41) (Zc zf_42 (Zc zf_43 zf_44))) (Zc (Zc zf_45 zf_46) (Zc zf_47 (Zc zf_48 zf_49)))) (Zc (Zc (Zc zf_50 zf_51) (Zc zf_52 (Zc zf_53 zf_54))) (Zc (Zc zf_55 zf_56) (Zc zf_57 (Zc zf_58 zf_59))))) (Zc (Zc (Zc (Zc zf_60 zf_61) (Zc zf_62 (Zc zf_63 zf_64))) (Zc (Zc zf_65 zf_66) (Zc zf_67 (Zc zf_68 zf_69)))) (Zc (Zc (Zc zf_70 zf_71) (Zc zf_72 (Zc zf_73 zf_74))) (Zc (Zc zf_75 zf_76) (Zc zf_77 (Zc zf_78 zf_79))))))) (Zc (Zc (Zc (Zc (Zc (Zc zf_80 zf_81) (Zc zf_82 (Zc zf_83 zf_84))) (Zc (Zc zf_85 zf_86) (Zc zf_87 (Zc zf_88 zf_89)))) (Zc (Zc (Zc zf_90 zf_91) (Zc zf_92 (Zc zf_93 zf_94))) (Zc (Zc zf_95 zf_96) (Zc zf_97 (Zc zf_98 zf_99))))) (Zc (Zc (Zc (Zc zf_100 zf_101) (Zc zf_102 (Zc zf_103 zf_104))) (Zc (Zc zf_105 zf_106) (Zc zf_107 (Zc zf_108 zf_109)))) (Zc (Zc (Zc zf_110 zf_111) (Zc zf_112 (Zc zf_113 zf_114))) (Zc (Zc zf_115 zf_116) (Zc zf_117 (Zc zf_118 zf_119)))))) (Zc (Zc (Zc (Zc (Zc zf_120 zf_121) (Zc zf_122 (Zc zf_123 zf_124))) (Zc (Zc zf_125 zf_126) (Zc zf_127 (Zc zf_128 zf_129)))) (Zc (Zc (Zc zf_130 zf_131) (Zc zf_132 (Zc zf_133 zf_134))) (Zc (Zc zf_135 zf_136) (Zc zf_137 (Zc zf_138 zf_139))))) (Zc (Zc (Zc (Zc zf_140 zf_141) (Zc zf_142 (Zc zf_143 zf_144))) (Zc (Zc zf_145 zf_146) (Zc zf_147 (Zc zf_148 zf_149)))) (Zc (Zc (Zc zf_150 zf_151) (Zc zf_152 (Zc zf_153 zf_154))) (Zc (Zc zf_155 (Zc zf_156 zf_157)) (Zc zf_158 (Zc zf_159 zf_160)))))))) (Zc (Zc (Zc (Zc (Zc (Zc (Zc zf_161 zf_162) (Zc zf_163 (Zc zf_164 zf_165))) (Zc (Zc zf_166 zf_167) (Zc zf_168 (Zc zf_169 zf_170)))) (Zc (Zc (Zc zf_171 zf_172) (Zc zf_173 (Zc zf_174 zf_175))) (Zc (Zc zf_176 zf_177) (Zc zf_178 (Zc zf_179 zf_180))))) (Zc (Zc (Zc (Zc zf_181 zf_182) (Zc zf_183 (Zc zf_184 zf_185))) (Zc (Zc zf_186 zf_187) (Zc zf_188 (Zc zf_189 zf_190)))) (Zc (Zc (Zc zf_191 zf_192) (Zc zf_193 (Zc zf_194 zf_195))) (Zc (Zc zf_196 zf_197) (Zc zf_198 (Zc zf_199 zf_200)))))) (Zc (Zc (Zc (Zc (Zc zf_201 zf_202) (Zc zf_203 (Zc zf_204 zf_205))) (Zc (Zc zf_206 zf_207) (Zc zf_208 (Zc zf_209 zf_210)))) (Zc (Zc (Zc zf_211 zf_212) (Zc zf_213 (Zc zf_214 zf_215))) (Zc (Zc zf_216 zf_217) (Zc zf_218 (Zc zf_219 zf_220))))) (Zc (Zc (Zc (Zc zf_221 zf_222) (Zc zf_223 (Zc zf_224 zf_225))) (Zc (Zc zf_226 zf_227) (Zc zf_228 (Zc zf_229 zf_230)))) (Zc (Zc (Zc zf_231 zf_232) (Zc zf_233 (Zc zf_234 zf_235))) (Zc (Zc zf_236 zf_237) (Zc zf_238 (Zc zf_239 zf_240))))))) (Zc (Zc (Zc (Zc (Zc (Zc zf_241 zf_242) (Zc zf_243 (Zc zf_244 zf_245))) (Zc (Zc zf_246 zf_247) (Zc zf_248 (Zc zf_249 zf_250)))) (Zc (Zc (Zc zf_251 zf_252) (Zc zf_253 (Zc zf_254 zf_255))) (Zc (Zc zf_256 zf_257) (Zc zf_258 (Zc zf_259 zf_260))))) (Zc (Zc (Zc (Zc zf_261 zf_262) (Zc zf_263 (Zc zf_264 zf_265))) (Zc (Zc zf_266 zf_267) (Zc zf_268 (Zc zf_269 zf_270)))) (Zc (Zc (Zc zf_271 zf_272) (Zc zf_273 (Zc zf_274 zf_275))) (Zc (Zc zf_276 zf_277) (Zc zf_278 (Zc zf_279 zf_280)))))) (Zc (Zc (Zc (Zc (Zc zf_281 zf_282) (Zc zf_283 (Zc zf_284 zf_285))) (Zc (Zc zf_286 zf_287) (Zc zf_288 (Zc zf_289 zf_290)))) (Zc (Zc (Zc zf_291 zf_292) (Zc zf_293 (Zc zf_294 zf_295))) (Zc (Zc zf_296 zf_297) (Zc zf_298 (Zc zf_299 zf_300))))) (Zc (Zc (Zc (Zc zf_301 zf_302) (Zc zf_303 (Zc zf_304 zf_305))) (Zc (Zc zf_306 zf_307) (Zc zf_308 (Zc zf_309 zf_310)))) (Zc (Zc (Zc zf_311 zf_312) (Zc zf_313 (Zc zf_314 zf_315))) (Zc (Zc zf_316 (Zc zf_317 zf_318)) (Zc zf_319 (Zc zf_320 zf_321)))))))))
-- the classes
theorem cl_at : ∀ ci, ci < 11 → eCls[ci]? = some (clF ci)
  | 0, _ => rfl
  | 1, _ => rfl
  | 2, _ => rfl
  | 3, _ => rfl
  | 4, _ => rfl
  | 5, _ => rfl
  | 6, _ => rfl
  | 7, _ => rfl
  | 8, _ => rfl
  | 9, _ => rfl
  | 10, _ => rfl
  | _ + 11, h => absurd h (by omega)
theorem cl_ty : ∀ ci, ci < 11 → ∀ k, k < (clF ci).2.2 → parseFieldDescriptor ((clF ci).2.1 k).2.2.1 = some (tyR ci k)
  | 0, _ => tyX0_ok
  | 1, _ => tyX1_ok
  | 2, _ => tyX2_ok
  | 3, _ => tyX3_ok
  | 4, _ => tyX4_ok
  | 5, _ => tyX5_ok
  | 6, _ => tyX6_ok
  | 7, _ => tyX8_ok
  | 8, _ => tyX9_ok
  | 9, _ => tyX10_ok
  | 10, _ => tyX11_ok
  | _ + 11, h => absurd h (by omega)
theorem cl_nm : ∀ ci, ci < 11 → ∀ a, a < (clF ci).2.2 → ∀ b, b < (clF ci).2.2 → a ≠ b → ((clF ci).2.1 a).2.1 ≠ ((clF ci).2.1 b).2.1
  | 0, _ => nmX0
  | 1, _ => nmX1
  | 2, _ => nmX2
  | 3, _ => nmX3
  | 4, _ => nmX4
  | 5, _ => nmX5
  | 6, _ => nmX6
  | 7, _ => nmX8
  | 8, _ => nmX9
  | 9, _ => nmX10
  | 10, _ => nmX11
  | _ + 11, h => absurd h (by omega)
set_option maxRecDepth 100000 in
theorem ly_all : (List.range 11).all (fun ci => (List.range (clF ci).2.2).all (fun k => chk ((lyF ci).getD k 0) (u_lay (clF ci).1 (clF ci).2.1 k))) = true := by decide +kernel
theorem cl_ws {ci : Nat} (h : ci < 11) : ∀ w ∈ u_ws (clF ci).1 (clF ci).2.1 (clF ci).2.2, w ∈ GT := by
  intro w hw
  unfold u_ws at hw
  obtain ⟨k, hk, rfl⟩ := List.mem_map.mp hw
  exact chk_in (List.all_eq_true.mp (List.all_eq_true.mp ly_all ci (List.mem_range.mpr h)) k hk)
-- the links
set_option maxRecDepth 100000 in
theorem FL_all : FLs.all (fun q => Nat.blt q.2.2.2.1 11 && (Nat.blt q.2.2.2.2 (clF q.2.2.2.1).2.2 && chk q.1 (.fieldLink (cn q.2.1) q.2.2.1 ((clF q.2.2.2.1).2.1 q.2.2.2.2).1 ((clF q.2.2.2.1).2.1 q.2.2.2.2).2.1 ((clF q.2.2.2.1).2.1 q.2.2.2.2).2.2.1))) = true := by decide +kernel
set_option maxRecDepth 100000 in
theorem ML_all : MLs.all (fun q => Nat.blt q.2.2.2 322 && chk q.1 (.methodLink (cn q.2.1) q.2.2.1 (mtF q.2.2.2).1)) = true := by decide +kernel
set_option maxRecDepth 100000 in
theorem CL_all : CLs.all (fun q => Nat.blt q.2.2.2.2.2 11 && (chk q.1 (.classLink (cn q.2.2.2.1) q.2.2.2.2.1 (clF q.2.2.2.2.2).1) && (chk q.2.1 (.instantiable (clF q.2.2.2.2.2).1 (clF q.2.2.2.2.2).2.2) && chk q.2.2.1 (.initialized (clF q.2.2.2.2.2).1)))) = true := by decide +kernel
set_option maxRecDepth 100000 in
theorem KC_all : KCs.all (fun q => chk q.1 (.constant (cn q.2.1) q.2.2.1 (Int32.ofInt q.2.2.2))) = true := by decide +kernel
set_option maxRecDepth 100000 in
theorem KL_all : KLs.all (fun q => chk q.1 (.constantLong (cn q.2.1) q.2.2.1 (Int64.ofInt q.2.2.2))) = true := by decide +kernel
set_option maxRecDepth 100000 in
theorem AC_all : ACs.all (fun q => chk q.1 (.methodLink (cn q.2.1) q.2.2 arraycopyName)) = true := by decide +kernel
set_option maxRecDepth 100000 in
theorem OI_all : OIs.all (fun q => chk q.1 (.methodLink (cn q.2.1) q.2.2 Lib.objectInit)) = true := by decide +kernel
set_option maxRecDepth 100000 in
theorem AR_all : (chk AR.1 (.arrayClass .int) && (chk AR.2.1 (.arrayClass .long) && (chk AR.2.2.1 (.arrayClass .byte) && (chk AR.2.2.2.1 (.native arraycopyName) && (chk AR.2.2.2.2.1 (.static arraycopyName) && (chk AR.2.2.2.2.2.1 (.initialized "java/lang/System") && (chk AR.2.2.2.2.2.2.1 (.instanceMethod Lib.objectInit) && chk AR.2.2.2.2.2.2.2 (.code Lib.objectInit ⟨#[0xb1]⟩ 1 none)))))))) = true := by decide +kernel
set_option maxRecDepth 100000 in
theorem MN_all : (MNs.all (fun q => chk q.1 (.methodLink (cn q.2.1) q.2.2 Lib.Math.min.name)) && (chk MNp.1 (.static Lib.Math.min.name) && (chk MNp.2.1 (.initialized "java/lang/Math") && chk MNp.2.2 (.code Lib.Math.min.name Lib.Math.min.code 2 (some .int))))) = true := by decide +kernel
set_option maxRecDepth 100000 in
theorem MX_all : (MXs.all (fun q => chk q.1 (.methodLink (cn q.2.1) q.2.2 Lib.Math.max.name)) && (chk MXp.1 (.static Lib.Math.max.name) && (chk MXp.2.1 (.initialized "java/lang/Math") && chk MXp.2.2 (.code Lib.Math.max.name Lib.Math.max.code 2 (some .int))))) = true := by decide +kernel
set_option maxRecDepth 100000 in
theorem AB_all : (ABs.all (fun q => chk q.1 (.methodLink (cn q.2.1) q.2.2 Lib.Math.abs.name)) && (chk ABp.1 (.static Lib.Math.abs.name) && (chk ABp.2.1 (.initialized "java/lang/Math") && chk ABp.2.2 (.code Lib.Math.abs.name Lib.Math.abs.code 1 (some .int))))) = true := by decide +kernel
-- the methods
def eqBs : List UInt8 → List UInt8 → Bool
  | [], [] => true
  | a :: as, b :: bs => Nat.beq a.toNat b.toNat && eqBs as bs
  | _, _ => false
theorem eqBs_eq : ∀ {a b : List UInt8}, eqBs a b = true → a = b
  | [], [], _ => rfl
  | a :: as, b :: bs, h => by
    unfold eqBs at h
    rw [Bool.and_eq_true] at h
    rw [UInt8.toNat_inj.mp (Nat.eq_of_beq_eq_true h.1), eqBs_eq h.2]
  | [], _ :: _, h => by cases h
  | _ :: _, [], h => by cases h
def eqBA (a b : ByteArray) : Bool := eqBs a.data.toList b.data.toList
theorem eqBA_eq {a b : ByteArray} (h : eqBA a b = true) : a = b := by
  obtain ⟨⟨a⟩⟩ := a
  obtain ⟨⟨b⟩⟩ := b
  have := eqBs_eq h
  rw [show a = b from this]
def codeEq : Cond → Cond → Bool
  | .code x b n r, .code x' b' n' r' => decide (x = x') && (eqBA b b' && (Nat.beq n n' && decide (r = r')))
  | .codeWith x b n r h, .codeWith x' b' n' r' h' => decide (x = x') && (eqBA b b' && (Nat.beq n n' && (decide (r = r') && decide (h = h'))))
  | _, _ => false
theorem codeEq_eq {v w : Cond} (h : codeEq v w = true) : v = w := by
  unfold codeEq at h
  split at h
  · simp only [Bool.and_eq_true, decide_eq_true_eq] at h
    obtain ⟨h1, h2, h3, h4⟩ := h
    rw [h1, eqBA_eq h2, Nat.eq_of_beq_eq_true h3, h4]
  · simp only [Bool.and_eq_true, decide_eq_true_eq] at h
    obtain ⟨h1, h2, h3, h4, h5⟩ := h
    rw [h1, eqBA_eq h2, Nat.eq_of_beq_eq_true h3, h4, h5]
  · cases h
def chkC (i : Nat) (w : Cond) : Bool := match eGet lw_tbl i with
  | some v => codeEq v w && goodWord w
  | none => false
theorem chkC_in {i : Nat} {w : Cond} (h : chkC i w = true) : w ∈ GT := by
  unfold chkC at h
  split at h
  next v hv =>
    rw [Bool.and_eq_true] at h
    have := codeEq_eq h.1
    subst this
    rw [eGet_eq] at hv
    exact List.mem_filter.mpr ⟨List.mem_of_getElem? hv, h.2⟩
  next => cases h
def chkM (M : Nat) : Bool := chkC (mpF M).1 (mtF M).2.1 && (chk (mpF M).2.1 (.initialized (mtF M).1.cls) && ((match kdF M with
   | 0 => chk (mpF M).2.2.1 (.static (mtF M).1)
   | 1 => chk (mpF M).2.2.1 (.instanceMethod (mtF M).1) && (chk (mpF M).2.2.2 (.selects (mtF M).1.cls (mtF M).1 (mtF M).1) && (Nat.blt (ciF M) 11 && decide ((clF (ciF M)).1 = (mtF M).1.cls)))
   | 4 => chk (mpF M).2.2.1 (.instanceMethod (mtF M).1) && (chk (mpF M).2.2.2 (.selects (mtF M).1.cls (mtF M).1 (mtF M).1) && (Nat.beq (ciF M) 100 && decide ((mtF M).1.cls = "java/lang/String")))
   | 2 => chk (mpF M).2.2.1 (.instanceMethod (mtF M).1) && (decide ((mtF M).1.name = "<init>") && decide ((mtF M).2.2.2.2.1 = none))
   | _ => true) && (decide ((mtF M).1.cls ≠ "java/lang/invoke/MethodHandle") && (decide ((mtF M).1.cls ≠ "java/lang/invoke/VarHandle") && (decide ((parseMethodDescriptor (mtF M).1.desc).map (fun d => d.parameters.length) = some (npF M)) && (Nat.ble (mtF M).2.2.2.1 45 && (decide (cn (ocF M) = (mtF M).1.cls) && (plainName (mtF M).1.cls && (bif Nat.blt M 294 then codeEq (mtF M).2.1 (Jvm.Cond.code (mtF M).1 (mtF M).2.2.1 (mtF M).2.2.2.1 (mtF M).2.2.2.2.1) else codeEq (mtF M).2.1 (Jvm.Cond.codeWith (mtF M).1 (mtF M).2.2.1 (mtF M).2.2.2.1 (mtF M).2.2.2.2.1 (hhF M)))))))))))
set_option maxRecDepth 100000 in
theorem SF_all : (chk SFp.1 (.fieldLink (cn 17) 9 "java/lang/String" "value" "[B") && (chk SFp.2.1 (.fieldLink (cn 17) 15 "java/lang/String" "coder" "B") && (chk SFp.2.2.1 (.fieldLink (cn 17) 38 "java/lang/String" "COMPACT_STRINGS" "Z") && chk SFp.2.2.2 (.fieldLink (cn 17) 1053 "jdk/internal/util/Preconditions" "SIOOBE_FORMATTER" "Ljava/util/function/BiFunction;")))) = true := by decide +kernel
