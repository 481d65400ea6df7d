/-! ===== CONTRACTS, 32.c002 ===== -/
def c_51_56 : eCut := ((5, [(0, (eRf 0)), (1, (eTa 45057)), (2, (eNm 53249 55 60)), (3, (eTa 61441)), (4, (eI 55))], [], (bS B_51.1 [(6, 55, 60)] ++ [((-2147483648), 2147483647)], []), hS hp_51 [(13, .inr (0, 82, eTop, [(0, (eNm 36920 55 1054)), (5, (eNm 0 0 1023)), (6, (eNm 0 0 1023)), (7, (eNm 0 0 1023)), (8, (eNm 0 0 1023)), (9, (eNm 0 0 1023)), (12, (eNm 0 0 4)), (13, (eNm 0 0 4)), (14, (eNm 0 0 4)), (15, (eNm 0 0 4)), (16, (eNm 0 0 4)), (17, (eNm 0 0 4)), (18, (eNm 0 0 4)), (19, (eNm 0 0 4)), (20, (eNm 0 0 4)), (21, (eNm 0 0 4)), (22, (eNm 0 (-1) 9)), (23, (eNm 0 (-1) 9)), (24, (eNm 0 (-1) 9)), (25, (eNm 0 (-1) 9)), (26, (eNm 0 (-1) 9)), (27, (eNm 0 (-1) 9)), (28, (eNm 0 (-1) 9)), (29, (eNm 0 (-1) 9)), (30, (eNm 0 (-1) 9)), (31, (eNm 0 (-1) 9)), (42, (eNm 0 0 9)), (43, (eNm 0 0 9)), (44, (eNm 0 0 9)), (45, (eNm 0 0 9)), (46, (eNm 0 0 9)), (47, (eNm 0 0 9)), (48, (eNm 0 0 9)), (49, (eNm 0 0 9)), (50, (eNm 0 0 9)), (51, (eNm 0 0 9)), (62, (eNm 0 0 9)), (63, (eNm 0 0 9)), (64, (eNm 0 0 9)), (65, (eNm 0 0 9)), (66, (eNm 0 0 9)), (67, (eNm 0 0 9)), (68, (eNm 0 0 9)), (69, (eNm 0 0 9)), (70, (eNm 0 0 9)), (71, (eNm 0 0 9))]))], 0, 0), nTh 7 [(0, 3, 0)], [(1, 0, 0), (4945, 0, 0)])
def c_51_57 : eCut := ((5, [(0, (eRf 0)), (1, (eTa 45057)), (2, (eNm 53249 56 60)), (3, (eTa 61441)), (4, (eI 56))], [], (bS B_51.1 [(6, 56, 60)] ++ [((-2147483648), 2147483647)], []), hS hp_51 [(13, .inr (0, 82, eTop, [(0, (eNm 36921 56 1055)), (5, (eNm 0 0 1023)), (6, (eNm 0 0 1023)), (7, (eNm 0 0 1023)), (8, (eNm 0 0 1023)), (9, (eNm 0 0 1023)), (12, (eNm 0 0 4)), (13, (eNm 0 0 4)), (14, (eNm 0 0 4)), (15, (eNm 0 0 4)), (16, (eNm 0 0 4)), (17, (eNm 0 0 4)), (18, (eNm 0 0 4)), (19, (eNm 0 0 4)), (20, (eNm 0 0 4)), (21, (eNm 0 0 4)), (22, (eNm 0 (-1) 9)), (23, (eNm 0 (-1) 9)), (24, (eNm 0 (-1) 9)), (25, (eNm 0 (-1) 9)), (26, (eNm 0 (-1) 9)), (27, (eNm 0 (-1) 9)), (28, (eNm 0 (-1) 9)), (29, (eNm 0 (-1) 9)), (30, (eNm 0 (-1) 9)), (31, (eNm 0 (-1) 9)), (42, (eNm 0 0 9)), (43, (eNm 0 0 9)), (44, (eNm 0 0 9)), (45, (eNm 0 0 9)), (46, (eNm 0 0 9)), (47, (eNm 0 0 9)), (48, (eNm 0 0 9)), (49, (eNm 0 0 9)), (50, (eNm 0 0 9)), (51, (eNm 0 0 9)), (62, (eNm 0 0 9)), (63, (eNm 0 0 9)), (64, (eNm 0 0 9)), (65, (eNm 0 0 9)), (66, (eNm 0 0 9)), (67, (eNm 0 0 9)), (68, (eNm 0 0 9)), (69, (eNm 0 0 9)), (70, (eNm 0 0 9)), (71, (eNm 0 0 9))]))], 0, 0), nTh 7 [(0, 3, 0)], [(1, 0, 0), (4944, 0, 0)])
def c_51_58 : eCut := ((5, [(0, (eRf 0)), (1, (eTa 45057)), (2, (eNm 53249 57 60)), (3, (eTa 61441)), (4, (eI 57))], [], (bS B_51.1 [(6, 57, 60)] ++ [((-2147483648), 2147483647)], []), hS hp_51 [(13, .inr (0, 82, eTop, [(0, (eNm 36922 57 1056)), (5, (eNm 0 0 1023)), (6, (eNm 0 0 1023)), (7, (eNm 0 0 1023)), (8, (eNm 0 0 1023)), (9, (eNm 0 0 1023)), (12, (eNm 0 0 4)), (13, (eNm 0 0 4)), (14, (eNm 0 0 4)), (15, (eNm 0 0 4)), (16, (eNm 0 0 4)), (17, (eNm 0 0 4)), (18, (eNm 0 0 4)), (19, (eNm 0 0 4)), (20, (eNm 0 0 4)), (21, (eNm 0 0 4)), (22, (eNm 0 (-1) 9)), (23, (eNm 0 (-1) 9)), (24, (eNm 0 (-1) 9)), (25, (eNm 0 (-1) 9)), (26, (eNm 0 (-1) 9)), (27, (eNm 0 (-1) 9)), (28, (eNm 0 (-1) 9)), (29, (eNm 0 (-1) 9)), (30, (eNm 0 (-1) 9)), (31, (eNm 0 (-1) 9)), (42, (eNm 0 0 9)), (43, (eNm 0 0 9)), (44, (eNm 0 0 9)), (45, (eNm 0 0 9)), (46, (eNm 0 0 9)), (47, (eNm 0 0 9)), (48, (eNm 0 0 9)), (49, (eNm 0 0 9)), (50, (eNm 0 0 9)), (51, (eNm 0 0 9)), (62, (eNm 0 0 9)), (63, (eNm 0 0 9)), (64, (eNm 0 0 9)), (65, (eNm 0 0 9)), (66, (eNm 0 0 9)), (67, (eNm 0 0 9)), (68, (eNm 0 0 9)), (69, (eNm 0 0 9)), (70, (eNm 0 0 9)), (71, (eNm 0 0 9))]))], 0, 0), nTh 7 [(0, 3, 0)], [(1, 0, 0), (4943, 0, 0)])
def c_51_59 : eCut := ((5, [(0, (eRf 0)), (1, (eTa 45057)), (2, (eNm 53249 58 60)), (3, (eTa 61441)), (4, (eI 58))], [], (bS B_51.1 [(6, 58, 60)] ++ [((-2147483648), 2147483647)], []), hS hp_51 [(13, .inr (0, 82, eTop, [(0, (eNm 36923 58 1057)), (5, (eNm 0 0 1023)), (6, (eNm 0 0 1023)), (7, (eNm 0 0 1023)), (8, (eNm 0 0 1023)), (9, (eNm 0 0 1023)), (12, (eNm 0 0 4)), (13, (eNm 0 0 4)), (14, (eNm 0 0 4)), (15, (eNm 0 0 4)), (16, (eNm 0 0 4)), (17, (eNm 0 0 4)), (18, (eNm 0 0 4)), (19, (eNm 0 0 4)), (20, (eNm 0 0 4)), (21, (eNm 0 0 4)), (22, (eNm 0 (-1) 9)), (23, (eNm 0 (-1) 9)), (24, (eNm 0 (-1) 9)), (25, (eNm 0 (-1) 9)), (26, (eNm 0 (-1) 9)), (27, (eNm 0 (-1) 9)), (28, (eNm 0 (-1) 9)), (29, (eNm 0 (-1) 9)), (30, (eNm 0 (-1) 9)), (31, (eNm 0 (-1) 9)), (42, (eNm 0 0 9)), (43, (eNm 0 0 9)), (44, (eNm 0 0 9)), (45, (eNm 0 0 9)), (46, (eNm 0 0 9)), (47, (eNm 0 0 9)), (48, (eNm 0 0 9)), (49, (eNm 0 0 9)), (50, (eNm 0 0 9)), (51, (eNm 0 0 9)), (62, (eNm 0 0 9)), (63, (eNm 0 0 9)), (64, (eNm 0 0 9)), (65, (eNm 0 0 9)), (66, (eNm 0 0 9)), (67, (eNm 0 0 9)), (68, (eNm 0 0 9)), (69, (eNm 0 0 9)), (70, (eNm 0 0 9)), (71, (eNm 0 0 9))]))], 0, 0), nTh 7 [(0, 3, 0)], [(1, 0, 0), (4942, 0, 0)])
def c_51_60 : eCut := ((5, [(0, (eRf 0)), (1, (eTa 45057)), (2, (eNm 53249 59 60)), (3, (eTa 61441)), (4, (eI 59))], [], (bS B_51.1 [(6, 59, 60)] ++ [((-2147483648), 2147483647)], []), hS hp_51 [(13, .inr (0, 82, eTop, [(0, (eNm 36924 59 1058)), (5, (eNm 0 0 1023)), (6, (eNm 0 0 1023)), (7, (eNm 0 0 1023)), (8, (eNm 0 0 1023)), (9, (eNm 0 0 1023)), (12, (eNm 0 0 4)), (13, (eNm 0 0 4)), (14, (eNm 0 0 4)), (15, (eNm 0 0 4)), (16, (eNm 0 0 4)), (17, (eNm 0 0 4)), (18, (eNm 0 0 4)), (19, (eNm 0 0 4)), (20, (eNm 0 0 4)), (21, (eNm 0 0 4)), (22, (eNm 0 (-1) 9)), (23, (eNm 0 (-1) 9)), (24, (eNm 0 (-1) 9)), (25, (eNm 0 (-1) 9)), (26, (eNm 0 (-1) 9)), (27, (eNm 0 (-1) 9)), (28, (eNm 0 (-1) 9)), (29, (eNm 0 (-1) 9)), (30, (eNm 0 (-1) 9)), (31, (eNm 0 (-1) 9)), (42, (eNm 0 0 9)), (43, (eNm 0 0 9)), (44, (eNm 0 0 9)), (45, (eNm 0 0 9)), (46, (eNm 0 0 9)), (47, (eNm 0 0 9)), (48, (eNm 0 0 9)), (49, (eNm 0 0 9)), (50, (eNm 0 0 9)), (51, (eNm 0 0 9)), (62, (eNm 0 0 9)), (63, (eNm 0 0 9)), (64, (eNm 0 0 9)), (65, (eNm 0 0 9)), (66, (eNm 0 0 9)), (67, (eNm 0 0 9)), (68, (eNm 0 0 9)), (69, (eNm 0 0 9)), (70, (eNm 0 0 9)), (71, (eNm 0 0 9))]))], 0, 0), nTh 7 [(0, 3, 0)], [(1, 0, 0), (4941, 0, 0)])
def c_51_61 : eCut := ((5, [(0, (eRf 0)), (1, (eTa 45057)), (2, (eNm 53249 60 60)), (3, (eTa 61441)), (4, (eI 60))], [], (bS B_51.1 [(6, 60, 60)] ++ [((-2147483648), 2147483647)], []), hS hp_51 [(13, .inr (0, 82, eTop, [(0, (eNm 36925 60 1059)), (5, (eNm 0 0 1023)), (6, (eNm 0 0 1023)), (7, (eNm 0 0 1023)), (8, (eNm 0 0 1023)), (9, (eNm 0 0 1023)), (12, (eNm 0 0 4)), (13, (eNm 0 0 4)), (14, (eNm 0 0 4)), (15, (eNm 0 0 4)), (16, (eNm 0 0 4)), (17, (eNm 0 0 4)), (18, (eNm 0 0 4)), (19, (eNm 0 0 4)), (20, (eNm 0 0 4)), (21, (eNm 0 0 4)), (22, (eNm 0 (-1) 9)), (23, (eNm 0 (-1) 9)), (24, (eNm 0 (-1) 9)), (25, (eNm 0 (-1) 9)), (26, (eNm 0 (-1) 9)), (27, (eNm 0 (-1) 9)), (28, (eNm 0 (-1) 9)), (29, (eNm 0 (-1) 9)), (30, (eNm 0 (-1) 9)), (31, (eNm 0 (-1) 9)), (42, (eNm 0 0 9)), (43, (eNm 0 0 9)), (44, (eNm 0 0 9)), (45, (eNm 0 0 9)), (46, (eNm 0 0 9)), (47, (eNm 0 0 9)), (48, (eNm 0 0 9)), (49, (eNm 0 0 9)), (50, (eNm 0 0 9)), (51, (eNm 0 0 9)), (62, (eNm 0 0 9)), (63, (eNm 0 0 9)), (64, (eNm 0 0 9)), (65, (eNm 0 0 9)), (66, (eNm 0 0 9)), (67, (eNm 0 0 9)), (68, (eNm 0 0 9)), (69, (eNm 0 0 9)), (70, (eNm 0 0 9)), (71, (eNm 0 0 9))]))], 0, 0), nTh 7 [(0, 3, 0)], [(1, 0, 0), (4940, 0, 0)])
def K_51 : List eCut := [c_51_1, c_51_2, c_51_3, c_51_4, c_51_5, c_51_6, c_51_7, c_51_8, c_51_9, c_51_10, c_51_11, c_51_12, c_51_13, c_51_14, c_51_15, c_51_16, c_51_17, c_51_18, c_51_19, c_51_20, c_51_21, c_51_22, c_51_23, c_51_24, c_51_25, c_51_26, c_51_27, c_51_28, c_51_29, c_51_30, c_51_31, c_51_32, c_51_33, c_51_34, c_51_35, c_51_36, c_51_37, c_51_38, c_51_39, c_51_40, c_51_41, c_51_42, c_51_43, c_51_44, c_51_45, c_51_46, c_51_47, c_51_48, c_51_49, c_51_50, c_51_51, c_51_52, c_51_53, c_51_54, c_51_55, c_51_56, c_51_57, c_51_58, c_51_59, c_51_60, c_51_61]
set_option maxRecDepth 1000000 in
theorem k_51_0 : ckM 82 sp_51 us_51 ic_51 20000 7 15 os_51 (c_51_0 :: K_51) c_51_0 = true := by decide +kernel
set_option maxRecDepth 1000000 in
theorem k_51_1 : ckM 82 sp_51 us_51 ic_51 20000 7 15 os_51 (c_51_0 :: K_51) c_51_1 = true := by decide +kernel
set_option maxRecDepth 1000000 in
theorem k_51_2 : ckM 82 sp_51 us_51 ic_51 20000 7 15 os_51 (c_51_0 :: K_51) c_51_2 = true := by decide +kernel
set_option maxRecDepth 1000000 in
theorem k_51_3 : ckM 82 sp_51 us_51 ic_51 20000 7 15 os_51 (c_51_0 :: K_51) c_51_3 = true := by decide +kernel
set_option maxRecDepth 1000000 in
theorem k_51_4 : ckM 82 sp_51 us_51 ic_51 20000 7 15 os_51 (c_51_0 :: K_51) c_51_4 = true := by decide +kernel
set_option maxRecDepth 1000000 in
theorem k_51_5 : ckM 82 sp_51 us_51 ic_51 20000 7 15 os_51 (c_51_0 :: K_51) c_51_5 = true := by decide +kernel
set_option maxRecDepth 1000000 in
theorem k_51_6 : ckM 82 sp_51 us_51 ic_51 20000 7 15 os_51 (c_51_0 :: K_51) c_51_6 = true := by decide +kernel
set_option maxRecDepth 1000000 in
theorem k_51_7 : ckM 82 sp_51 us_51 ic_51 20000 7 15 os_51 (c_51_0 :: K_51) c_51_7 = true := by decide +kernel
set_option maxRecDepth 1000000 in
theorem k_51_8 : ckM 82 sp_51 us_51 ic_51 20000 7 15 os_51 (c_51_0 :: K_51) c_51_8 = true := by decide +kernel
set_option maxRecDepth 1000000 in
theorem k_51_9 : ckM 82 sp_51 us_51 ic_51 20000 7 15 os_51 (c_51_0 :: K_51) c_51_9 = true := by decide +kernel
set_option maxRecDepth 1000000 in
theorem k_51_10 : ckM 82 sp_51 us_51 ic_51 20000 7 15 os_51 (c_51_0 :: K_51) c_51_10 = true := by decide +kernel
set_option maxRecDepth 1000000 in
theorem k_51_11 : ckM 82 sp_51 us_51 ic_51 20000 7 15 os_51 (c_51_0 :: K_51) c_51_11 = true := by decide +kernel
set_option maxRecDepth 1000000 in
theorem k_51_12 : ckM 82 sp_51 us_51 ic_51 20000 7 15 os_51 (c_51_0 :: K_51) c_51_12 = true := by decide +kernel
set_option maxRecDepth 1000000 in
theorem k_51_13 : ckM 82 sp_51 us_51 ic_51 20000 7 15 os_51 (c_51_0 :: K_51) c_51_13 = true := by decide +kernel
set_option maxRecDepth 1000000 in
theorem k_51_14 : ckM 82 sp_51 us_51 ic_51 20000 7 15 os_51 (c_51_0 :: K_51) c_51_14 = true := by decide +kernel
set_option maxRecDepth 1000000 in
theorem k_51_15 : ckM 82 sp_51 us_51 ic_51 20000 7 15 os_51 (c_51_0 :: K_51) c_51_15 = true := by decide +kernel
set_option maxRecDepth 1000000 in
theorem k_51_16 : ckM 82 sp_51 us_51 ic_51 20000 7 15 os_51 (c_51_0 :: K_51) c_51_16 = true := by decide +kernel
set_option maxRecDepth 1000000 in
theorem k_51_17 : ckM 82 sp_51 us_51 ic_51 20000 7 15 os_51 (c_51_0 :: K_51) c_51_17 = true := by decide +kernel
set_option maxRecDepth 1000000 in
theorem k_51_18 : ckM 82 sp_51 us_51 ic_51 20000 7 15 os_51 (c_51_0 :: K_51) c_51_18 = true := by decide +kernel
set_option maxRecDepth 1000000 in
theorem k_51_19 : ckM 82 sp_51 us_51 ic_51 20000 7 15 os_51 (c_51_0 :: K_51) c_51_19 = true := by decide +kernel
set_option maxRecDepth 1000000 in
theorem k_51_20 : ckM 82 sp_51 us_51 ic_51 20000 7 15 os_51 (c_51_0 :: K_51) c_51_20 = true := by decide +kernel
set_option maxRecDepth 1000000 in
theorem k_51_21 : ckM 82 sp_51 us_51 ic_51 20000 7 15 os_51 (c_51_0 :: K_51) c_51_21 = true := by decide +kernel
set_option maxRecDepth 1000000 in
theorem k_51_22 : ckM 82 sp_51 us_51 ic_51 20000 7 15 os_51 (c_51_0 :: K_51) c_51_22 = true := by decide +kernel
set_option maxRecDepth 1000000 in
theorem k_51_23 : ckM 82 sp_51 us_51 ic_51 20000 7 15 os_51 (c_51_0 :: K_51) c_51_23 = true := by decide +kernel
set_option maxRecDepth 1000000 in
theorem k_51_24 : ckM 82 sp_51 us_51 ic_51 20000 7 15 os_51 (c_51_0 :: K_51) c_51_24 = true := by decide +kernel
set_option maxRecDepth 1000000 in
theorem k_51_25 : ckM 82 sp_51 us_51 ic_51 20000 7 15 os_51 (c_51_0 :: K_51) c_51_25 = true := by decide +kernel
set_option maxRecDepth 1000000 in
theorem k_51_26 : ckM 82 sp_51 us_51 ic_51 20000 7 15 os_51 (c_51_0 :: K_51) c_51_26 = true := by decide +kernel
set_option maxRecDepth 1000000 in
theorem k_51_27 : ckM 82 sp_51 us_51 ic_51 20000 7 15 os_51 (c_51_0 :: K_51) c_51_27 = true := by decide +kernel
set_option maxRecDepth 1000000 in
theorem k_51_28 : ckM 82 sp_51 us_51 ic_51 20000 7 15 os_51 (c_51_0 :: K_51) c_51_28 = true := by decide +kernel
set_option maxRecDepth 1000000 in
theorem k_51_29 : ckM 82 sp_51 us_51 ic_51 20000 7 15 os_51 (c_51_0 :: K_51) c_51_29 = true := by decide +kernel
set_option maxRecDepth 1000000 in
theorem k_51_30 : ckM 82 sp_51 us_51 ic_51 20000 7 15 os_51 (c_51_0 :: K_51) c_51_30 = true := by decide +kernel
set_option maxRecDepth 1000000 in
theorem k_51_31 : ckM 82 sp_51 us_51 ic_51 20000 7 15 os_51 (c_51_0 :: K_51) c_51_31 = true := by decide +kernel
set_option maxRecDepth 1000000 in
theorem k_51_32 : ckM 82 sp_51 us_51 ic_51 20000 7 15 os_51 (c_51_0 :: K_51) c_51_32 = true := by decide +kernel
set_option maxRecDepth 1000000 in
theorem k_51_33 : ckM 82 sp_51 us_51 ic_51 20000 7 15 os_51 (c_51_0 :: K_51) c_51_33 = true := by decide +kernel
set_option maxRecDepth 1000000 in
theorem k_51_34 : ckM 82 sp_51 us_51 ic_51 20000 7 15 os_51 (c_51_0 :: K_51) c_51_34 = true := by decide +kernel
set_option maxRecDepth 1000000 in
theorem k_51_35 : ckM 82 sp_51 us_51 ic_51 20000 7 15 os_51 (c_51_0 :: K_51) c_51_35 = true := by decide +kernel
set_option maxRecDepth 1000000 in
theorem k_51_36 : ckM 82 sp_51 us_51 ic_51 20000 7 15 os_51 (c_51_0 :: K_51) c_51_36 = true := by decide +kernel
set_option maxRecDepth 1000000 in
theorem k_51_37 : ckM 82 sp_51 us_51 ic_51 20000 7 15 os_51 (c_51_0 :: K_51) c_51_37 = true := by decide +kernel
set_option maxRecDepth 1000000 in
theorem k_51_38 : ckM 82 sp_51 us_51 ic_51 20000 7 15 os_51 (c_51_0 :: K_51) c_51_38 = true := by decide +kernel
set_option maxRecDepth 1000000 in
theorem k_51_39 : ckM 82 sp_51 us_51 ic_51 20000 7 15 os_51 (c_51_0 :: K_51) c_51_39 = true := by decide +kernel
set_option maxRecDepth 1000000 in
theorem k_51_40 : ckM 82 sp_51 us_51 ic_51 20000 7 15 os_51 (c_51_0 :: K_51) c_51_40 = true := by decide +kernel
set_option maxRecDepth 1000000 in
theorem k_51_41 : ckM 82 sp_51 us_51 ic_51 20000 7 15 os_51 (c_51_0 :: K_51) c_51_41 = true := by decide +kernel
set_option maxRecDepth 1000000 in
theorem k_51_42 : ckM 82 sp_51 us_51 ic_51 20000 7 15 os_51 (c_51_0 :: K_51) c_51_42 = true := by decide +kernel
set_option maxRecDepth 1000000 in
theorem k_51_43 : ckM 82 sp_51 us_51 ic_51 20000 7 15 os_51 (c_51_0 :: K_51) c_51_43 = true := by decide +kernel
set_option maxRecDepth 1000000 in
theorem k_51_44 : ckM 82 sp_51 us_51 ic_51 20000 7 15 os_51 (c_51_0 :: K_51) c_51_44 = true := by decide +kernel
set_option maxRecDepth 1000000 in
theorem k_51_45 : ckM 82 sp_51 us_51 ic_51 20000 7 15 os_51 (c_51_0 :: K_51) c_51_45 = true := by decide +kernel
set_option maxRecDepth 1000000 in
theorem k_51_46 : ckM 82 sp_51 us_51 ic_51 20000 7 15 os_51 (c_51_0 :: K_51) c_51_46 = true := by decide +kernel
set_option maxRecDepth 1000000 in
theorem k_51_47 : ckM 82 sp_51 us_51 ic_51 20000 7 15 os_51 (c_51_0 :: K_51) c_51_47 = true := by decide +kernel
set_option maxRecDepth 1000000 in
theorem k_51_48 : ckM 82 sp_51 us_51 ic_51 20000 7 15 os_51 (c_51_0 :: K_51) c_51_48 = true := by decide +kernel
set_option maxRecDepth 1000000 in
theorem k_51_49 : ckM 82 sp_51 us_51 ic_51 20000 7 15 os_51 (c_51_0 :: K_51) c_51_49 = true := by decide +kernel
set_option maxRecDepth 1000000 in
theorem k_51_50 : ckM 82 sp_51 us_51 ic_51 20000 7 15 os_51 (c_51_0 :: K_51) c_51_50 = true := by decide +kernel
set_option maxRecDepth 1000000 in
theorem k_51_51 : ckM 82 sp_51 us_51 ic_51 20000 7 15 os_51 (c_51_0 :: K_51) c_51_51 = true := by decide +kernel
set_option maxRecDepth 1000000 in
theorem k_51_52 : ckM 82 sp_51 us_51 ic_51 20000 7 15 os_51 (c_51_0 :: K_51) c_51_52 = true := by decide +kernel
set_option maxRecDepth 1000000 in
theorem k_51_53 : ckM 82 sp_51 us_51 ic_51 20000 7 15 os_51 (c_51_0 :: K_51) c_51_53 = true := by decide +kernel
set_option maxRecDepth 1000000 in
theorem k_51_54 : ckM 82 sp_51 us_51 ic_51 20000 7 15 os_51 (c_51_0 :: K_51) c_51_54 = true := by decide +kernel
set_option maxRecDepth 1000000 in
theorem k_51_55 : ckM 82 sp_51 us_51 ic_51 20000 7 15 os_51 (c_51_0 :: K_51) c_51_55 = true := by decide +kernel
set_option maxRecDepth 1000000 in
theorem k_51_56 : ckM 82 sp_51 us_51 ic_51 20000 7 15 os_51 (c_51_0 :: K_51) c_51_56 = true := by decide +kernel
set_option maxRecDepth 1000000 in
theorem k_51_57 : ckM 82 sp_51 us_51 ic_51 20000 7 15 os_51 (c_51_0 :: K_51) c_51_57 = true := by decide +kernel
set_option maxRecDepth 1000000 in
theorem k_51_58 : ckM 82 sp_51 us_51 ic_51 20000 7 15 os_51 (c_51_0 :: K_51) c_51_58 = true := by decide +kernel
set_option maxRecDepth 1000000 in
theorem k_51_59 : ckM 82 sp_51 us_51 ic_51 20000 7 15 os_51 (c_51_0 :: K_51) c_51_59 = true := by decide +kernel
set_option maxRecDepth 1000000 in
theorem k_51_60 : ckM 82 sp_51 us_51 ic_51 20000 7 15 os_51 (c_51_0 :: K_51) c_51_60 = true := by decide +kernel
set_option maxRecDepth 1000000 in
theorem k_51_61 : ckM 82 sp_51 us_51 ic_51 20000 7 15 os_51 (c_51_0 :: K_51) c_51_61 = true := by decide +kernel
/-! BalconyPort$Plan.findNeighbours -/
def as_52 : List eV := [(eRf 0)]
def B_52 : eB := ([(0, 10), (0, 10), (0, 10), (0, 700)], [])
def hp_52 : eH := [.inl (3, [(eNm 4097 0 10), (eNm 12289 0 10), (eNm 20481 0 10), (eNm 28673 0 700), (eRf 1), (eRf 2), (eRf 3), (eRf 4), (eRf 5), (eRf 6), (eRf 7), (eRf 8), (eRf 9), (eRf 10), (eRf 11)]), fr9 1, fr9 2, fr9 3, .inr (3, 4, (9, 0, 10, 0), [(1000000, (eNm 0 0 3))]), fr9 5, fr9 6, fr9 7, fr9 8, fr9 9, .inr (0, 4, (eNm 0 0 1023), []), .inr (0, 10, (eNm 0 0 1023), [])]
def th_52 : List (Option eP) := [(eP1 0 0), (eP1 0 1), (eP1 0 2), (eP1 0 3)]
def os_52 : List (eO × List (Option eP)) := [((0, none, (B_52.1, []), hp_52), nTh 4 [])]
def cd_52 (φ : List Nat) : eCd := (as_52, B_52, hp_52, th_52, os_52.map (fun w => w.1), φ)
def us_52 : eUs := [(5, 280, [cd_1 [10]])]
def sp_52 : List (Nat × Nat) := []
def ic_52 (pc : Nat) : Bool := bif Nat.beq pc 10 then true else (false)
def c_52_0 : eCut := ((0, eArgs 0 as_52, [], B_52, hp_52, 0, 0), [], [(900000, 0, 0), (0, 0, 0)])
def c_52_1 : eCut := ((10, [(0, (eRf 0)), (1, (eNm 36865 0 10))], [], (B_52.1 ++ [(0, 10)], []), hp_52, 0, 0), nTh 4 [(0, 1, 0)], [(1, 0, 0), (10, (-1), 4)])
def K_52 : List eCut := [c_52_1]
set_option maxRecDepth 1000000 in
theorem k_52_0 : ckM 22 sp_52 us_52 ic_52 20000 4 12 os_52 (c_52_0 :: K_52) c_52_0 = true := by decide +kernel
