/-! ===== CONTRACTS, 31.m040 ===== -/
def c_387_106 : eCut := ((95, [(0, (2, 0, 0, 0)), (1, (eI 0)), (2, (eI 7)), (3, (eI 7))], [], ([((-2147483648), 2147483647), (0, 10), (0, 10), (1, 99), (1, 9), (1, 9), (0, 10), (0, 700), (0, 10), (0, 10), (0, 99), (0, 9), (0, 9), (0, 10), (0, 700), (0, 700), (1, 697), (1, 700), (1, 1), ((-2147483648), 2147483647), (0, 696), (0, 700), ((-2147483648), 2147483647), ((-2147483648), 2147483647), (0, 999), ((-2147483648), 2147483647), (0, 40), (0, 8), (0, 100), ((-2147483648), 2147483647), (0, 1), (0, 40), (0, 8), (0, 2), (0, 2), (7, 700), ((-2147483648), 2147483647), (6, 697), (1, 700), (6, 697)], [(1, 20, 1, 16, 0), (1, 37, 1, 35, 0), (1, 16, 0, 37, 0), (1, 16, 1, 35, 0), (1, 20, 1, 37, 0), (1, 20, 2, 35, 0)]), [.inl (10, [(5, 59, 0, 0), (0, 4097, (-2147483648), 2147483647), (2, 1, 0, 0), (2, 2, 0, 0), (2, 3, 0, 0), (2, 4, 0, 0), (2, 5, 0, 0), (2, 6, 0, 0), (2, 7, 0, 0), (2, 8, 0, 0), (2, 9, 0, 0), (2, 10, 0, 0), (2, 11, 0, 0), (0, 126977, 0, 700), (0, 290817, 7, 700), (0, 143361, 1, 700), (eI 1), (0, 299009, (-2147483648), 2147483647), (0, 307201, 6, 697), (0, 315393, 1, 700), (eI 2), (0, 323585, 6, 697), (0, 192513, (-2147483648), 2147483647), (2, 12, 0, 0), (2, 13, 0, 0), (2, 14, 0, 0), (2, 15, 0, 0), (2, 16, 0, 0), (2, 17, 0, 0), (2, 18, 0, 0), (2, 19, 0, 0), (0, 200705, 0, 999), (0, 208897, (-2147483648), 2147483647), (0, 217089, 0, 40), (0, 225281, 0, 8), (2, 20, 0, 0), (2, 21, 0, 0), (2, 22, 0, 0), (2, 23, 0, 0), (2, 24, 0, 0), (2, 25, 0, 0), (2, 26, 0, 0), (2, 27, 0, 0), (2, 28, 0, 0), (2, 29, 0, 0), (2, 30, 0, 0), (0, 233473, 0, 100), (0, 241665, (-2147483648), 2147483647), (0, 249857, 0, 1), (0, 258049, 0, 40), (0, 266241, 0, 8), (2, 31, 0, 0), (2, 32, 0, 0), (2, 33, 0, 0), (2, 34, 0, 0), (2, 35, 0, 0)]), .inr (0, 14, eTop, [(0, (0, 12289, 0, 10)), (1, (0, 20481, 0, 10)), (2, (0, 28673, 1, 99)), (3, (0, 36865, 1, 9)), (4, (0, 45057, 1, 9)), (5, (0, 53249, 0, 10)), (6, (0, 61441, 0, 700)), (7, (0, 69633, 0, 10)), (8, (0, 77825, 0, 10)), (9, (0, 86017, 0, 99)), (10, (0, 94209, 0, 9)), (11, (0, 102401, 0, 9)), (12, (0, 110593, 0, 10)), (13, (0, 118785, 0, 700))]), .inr (3, 2, (eI 0), []), .inr (3, 3, (eI 0), []), .inr (3, 4, (eI 0), []), .inr (3, 5, (eI 0), []), .inr (3, 6, (eI 0), []), .inr (3, 7, (eI 0), []), .inr (3, 8, (eI 0), []), .inr (7, 1400, (eI 0), [(0, (0, 61441, 0, 700))]), .inr (3, 10, (eI 0), []), .inr (8, 700, (eI 0), []), .inr (3, 12, (eI 0), []), .inr (3, 13, (eI 0), []), .inr (3, 14, (eI 0), []), .inr (3, 15, (eI 0), []), .inr (3, 16, (eI 0), []), .inr (3, 17, (eI 0), []), .inr (3, 18, (eI 0), []), .inr (3, 19, (eI 0), []), .inr (3, 20, (eI 0), []), .inr (3, 21, (eI 0), []), .inr (3, 22, (eI 0), []), .inr (3, 23, (eI 0), []), .inr (3, 24, (eI 0), []), .inr (3, 25, (eI 0), []), .inr (3, 26, (eI 0), []), .inr (3, 27, (eI 0), []), .inr (3, 28, (eI 0), []), .inr (3, 29, (eI 0), []), .inr (3, 30, (eI 0), []), .inr (3, 31, (eI 0), []), .inr (3, 32, (eI 0), []), .inr (3, 33, (eI 0), []), .inr (3, 34, (eI 0), []), .inr (3, 35, (eI 0), [])], 0, 0), [none, none, none, none, none, none, none, none, none, none, none, none, none, none, none, none, none, none, none, none, none, none, none, none, none, none, none, none, none, none, none, none, none, none, none, some (1, 0, 14), some (1, 0, 17), some (1, 0, 18), some (1, 0, 19), some (1, 0, 21)], [(1, 0, 0), (4993, 0, 0)])
def K_387 : List eCut := [c_387_1, c_387_2, c_387_3, c_387_4, c_387_5, c_387_6, c_387_7, c_387_8, c_387_9, c_387_10, c_387_11, c_387_12, c_387_13, c_387_14, c_387_15, c_387_16, c_387_17, c_387_18, c_387_19, c_387_20, c_387_21, c_387_22, c_387_23, c_387_24, c_387_25, c_387_26, c_387_27, c_387_28, c_387_29, c_387_30, c_387_31, c_387_32, c_387_33, c_387_34, c_387_35, c_387_36, c_387_37, c_387_38, c_387_39, c_387_40, c_387_41, c_387_42, c_387_43, c_387_44, c_387_45, c_387_46, c_387_47, c_387_48, c_387_49, c_387_50, c_387_51, c_387_52, c_387_53, c_387_54, c_387_55, c_387_56, c_387_57, c_387_58, c_387_59, c_387_60, c_387_61, c_387_62, c_387_63, c_387_64, c_387_65, c_387_66, c_387_67, c_387_68, c_387_69, c_387_70, c_387_71, c_387_72, c_387_73, c_387_74, c_387_75, c_387_76, c_387_77, c_387_78, c_387_79, c_387_80, c_387_81, c_387_82, c_387_83, c_387_84, c_387_85, c_387_86, c_387_87, c_387_88, c_387_89, c_387_90, c_387_91, c_387_92, c_387_93, c_387_94, c_387_95, c_387_96, c_387_97, c_387_98, c_387_99, c_387_100, c_387_101, c_387_102, c_387_103, c_387_104, c_387_105, c_387_106]
set_option maxRecDepth 1000000 in
theorem k_387_0 : ckM 230 sp_387 us_387 ic_387 20000 35 36 os_387 (c_387_0 :: K_387) c_387_0 = true := by decide +kernel
set_option maxRecDepth 1000000 in
theorem k_387_1 : ckM 230 sp_387 us_387 ic_387 20000 35 36 os_387 (c_387_0 :: K_387) c_387_1 = true := by decide +kernel
set_option maxRecDepth 1000000 in
theorem k_387_2 : ckM 230 sp_387 us_387 ic_387 20000 35 36 os_387 (c_387_0 :: K_387) c_387_2 = true := by decide +kernel
set_option maxRecDepth 1000000 in
theorem k_387_3 : ckM 230 sp_387 us_387 ic_387 20000 35 36 os_387 (c_387_0 :: K_387) c_387_3 = true := by decide +kernel
set_option maxRecDepth 1000000 in
theorem k_387_4 : ckM 230 sp_387 us_387 ic_387 20000 35 36 os_387 (c_387_0 :: K_387) c_387_4 = true := by decide +kernel
set_option maxRecDepth 1000000 in
theorem k_387_5 : ckM 230 sp_387 us_387 ic_387 20000 35 36 os_387 (c_387_0 :: K_387) c_387_5 = true := by decide +kernel
set_option maxRecDepth 1000000 in
theorem k_387_6 : ckM 230 sp_387 us_387 ic_387 20000 35 36 os_387 (c_387_0 :: K_387) c_387_6 = true := by decide +kernel
set_option maxRecDepth 1000000 in
theorem k_387_7 : ckM 230 sp_387 us_387 ic_387 20000 35 36 os_387 (c_387_0 :: K_387) c_387_7 = true := by decide +kernel
set_option maxRecDepth 1000000 in
theorem k_387_8 : ckM 230 sp_387 us_387 ic_387 20000 35 36 os_387 (c_387_0 :: K_387) c_387_8 = true := by decide +kernel
set_option maxRecDepth 1000000 in
theorem k_387_9 : ckM 230 sp_387 us_387 ic_387 20000 35 36 os_387 (c_387_0 :: K_387) c_387_9 = true := by decide +kernel
set_option maxRecDepth 1000000 in
theorem k_387_10 : ckM 230 sp_387 us_387 ic_387 20000 35 36 os_387 (c_387_0 :: K_387) c_387_10 = true := by decide +kernel
set_option maxRecDepth 1000000 in
theorem k_387_11 : ckM 230 sp_387 us_387 ic_387 20000 35 36 os_387 (c_387_0 :: K_387) c_387_11 = true := by decide +kernel
set_option maxRecDepth 1000000 in
theorem k_387_12 : ckM 230 sp_387 us_387 ic_387 20000 35 36 os_387 (c_387_0 :: K_387) c_387_12 = true := by decide +kernel
set_option maxRecDepth 1000000 in
theorem k_387_13 : ckM 230 sp_387 us_387 ic_387 20000 35 36 os_387 (c_387_0 :: K_387) c_387_13 = true := by decide +kernel
set_option maxRecDepth 1000000 in
theorem k_387_14 : ckM 230 sp_387 us_387 ic_387 20000 35 36 os_387 (c_387_0 :: K_387) c_387_14 = true := by decide +kernel
set_option maxRecDepth 1000000 in
theorem k_387_15 : ckM 230 sp_387 us_387 ic_387 20000 35 36 os_387 (c_387_0 :: K_387) c_387_15 = true := by decide +kernel
set_option maxRecDepth 1000000 in
theorem k_387_16 : ckM 230 sp_387 us_387 ic_387 20000 35 36 os_387 (c_387_0 :: K_387) c_387_16 = true := by decide +kernel
set_option maxRecDepth 1000000 in
theorem k_387_17 : ckM 230 sp_387 us_387 ic_387 20000 35 36 os_387 (c_387_0 :: K_387) c_387_17 = true := by decide +kernel
set_option maxRecDepth 1000000 in
theorem k_387_18 : ckM 230 sp_387 us_387 ic_387 20000 35 36 os_387 (c_387_0 :: K_387) c_387_18 = true := by decide +kernel
set_option maxRecDepth 1000000 in
theorem k_387_19 : ckM 230 sp_387 us_387 ic_387 20000 35 36 os_387 (c_387_0 :: K_387) c_387_19 = true := by decide +kernel
set_option maxRecDepth 1000000 in
theorem k_387_20 : ckM 230 sp_387 us_387 ic_387 20000 35 36 os_387 (c_387_0 :: K_387) c_387_20 = true := by decide +kernel
set_option maxRecDepth 1000000 in
theorem k_387_21 : ckM 230 sp_387 us_387 ic_387 20000 35 36 os_387 (c_387_0 :: K_387) c_387_21 = true := by decide +kernel
set_option maxRecDepth 1000000 in
theorem k_387_22 : ckM 230 sp_387 us_387 ic_387 20000 35 36 os_387 (c_387_0 :: K_387) c_387_22 = true := by decide +kernel
set_option maxRecDepth 1000000 in
theorem k_387_23 : ckM 230 sp_387 us_387 ic_387 20000 35 36 os_387 (c_387_0 :: K_387) c_387_23 = true := by decide +kernel
set_option maxRecDepth 1000000 in
theorem k_387_24 : ckM 230 sp_387 us_387 ic_387 20000 35 36 os_387 (c_387_0 :: K_387) c_387_24 = true := by decide +kernel
set_option maxRecDepth 1000000 in
theorem k_387_25 : ckM 230 sp_387 us_387 ic_387 20000 35 36 os_387 (c_387_0 :: K_387) c_387_25 = true := by decide +kernel
set_option maxRecDepth 1000000 in
theorem k_387_26 : ckM 230 sp_387 us_387 ic_387 20000 35 36 os_387 (c_387_0 :: K_387) c_387_26 = true := by decide +kernel
set_option maxRecDepth 1000000 in
theorem k_387_27 : ckM 230 sp_387 us_387 ic_387 20000 35 36 os_387 (c_387_0 :: K_387) c_387_27 = true := by decide +kernel
set_option maxRecDepth 1000000 in
theorem k_387_28 : ckM 230 sp_387 us_387 ic_387 20000 35 36 os_387 (c_387_0 :: K_387) c_387_28 = true := by decide +kernel
set_option maxRecDepth 1000000 in
theorem k_387_29 : ckM 230 sp_387 us_387 ic_387 20000 35 36 os_387 (c_387_0 :: K_387) c_387_29 = true := by decide +kernel
set_option maxRecDepth 1000000 in
theorem k_387_30 : ckM 230 sp_387 us_387 ic_387 20000 35 36 os_387 (c_387_0 :: K_387) c_387_30 = true := by decide +kernel
set_option maxRecDepth 1000000 in
theorem k_387_31 : ckM 230 sp_387 us_387 ic_387 20000 35 36 os_387 (c_387_0 :: K_387) c_387_31 = true := by decide +kernel
set_option maxRecDepth 1000000 in
theorem k_387_32 : ckM 230 sp_387 us_387 ic_387 20000 35 36 os_387 (c_387_0 :: K_387) c_387_32 = true := by decide +kernel
set_option maxRecDepth 1000000 in
theorem k_387_33 : ckM 230 sp_387 us_387 ic_387 20000 35 36 os_387 (c_387_0 :: K_387) c_387_33 = true := by decide +kernel
set_option maxRecDepth 1000000 in
theorem k_387_34 : ckM 230 sp_387 us_387 ic_387 20000 35 36 os_387 (c_387_0 :: K_387) c_387_34 = true := by decide +kernel
set_option maxRecDepth 1000000 in
theorem k_387_35 : ckM 230 sp_387 us_387 ic_387 20000 35 36 os_387 (c_387_0 :: K_387) c_387_35 = true := by decide +kernel
set_option maxRecDepth 1000000 in
theorem k_387_36 : ckM 230 sp_387 us_387 ic_387 20000 35 36 os_387 (c_387_0 :: K_387) c_387_36 = true := by decide +kernel
set_option maxRecDepth 1000000 in
theorem k_387_37 : ckM 230 sp_387 us_387 ic_387 20000 35 36 os_387 (c_387_0 :: K_387) c_387_37 = true := by decide +kernel
set_option maxRecDepth 1000000 in
theorem k_387_38 : ckM 230 sp_387 us_387 ic_387 20000 35 36 os_387 (c_387_0 :: K_387) c_387_38 = true := by decide +kernel
set_option maxRecDepth 1000000 in
theorem k_387_39 : ckM 230 sp_387 us_387 ic_387 20000 35 36 os_387 (c_387_0 :: K_387) c_387_39 = true := by decide +kernel
set_option maxRecDepth 1000000 in
theorem k_387_40 : ckM 230 sp_387 us_387 ic_387 20000 35 36 os_387 (c_387_0 :: K_387) c_387_40 = true := by decide +kernel
set_option maxRecDepth 1000000 in
theorem k_387_41 : ckM 230 sp_387 us_387 ic_387 20000 35 36 os_387 (c_387_0 :: K_387) c_387_41 = true := by decide +kernel
set_option maxRecDepth 1000000 in
theorem k_387_42 : ckM 230 sp_387 us_387 ic_387 20000 35 36 os_387 (c_387_0 :: K_387) c_387_42 = true := by decide +kernel
set_option maxRecDepth 1000000 in
theorem k_387_43 : ckM 230 sp_387 us_387 ic_387 20000 35 36 os_387 (c_387_0 :: K_387) c_387_43 = true := by decide +kernel
set_option maxRecDepth 1000000 in
theorem k_387_44 : ckM 230 sp_387 us_387 ic_387 20000 35 36 os_387 (c_387_0 :: K_387) c_387_44 = true := by decide +kernel
set_option maxRecDepth 1000000 in
theorem k_387_45 : ckM 230 sp_387 us_387 ic_387 20000 35 36 os_387 (c_387_0 :: K_387) c_387_45 = true := by decide +kernel
set_option maxRecDepth 1000000 in
theorem k_387_46 : ckM 230 sp_387 us_387 ic_387 20000 35 36 os_387 (c_387_0 :: K_387) c_387_46 = true := by decide +kernel
set_option maxRecDepth 1000000 in
theorem k_387_47 : ckM 230 sp_387 us_387 ic_387 20000 35 36 os_387 (c_387_0 :: K_387) c_387_47 = true := by decide +kernel
set_option maxRecDepth 1000000 in
theorem k_387_48 : ckM 230 sp_387 us_387 ic_387 20000 35 36 os_387 (c_387_0 :: K_387) c_387_48 = true := by decide +kernel
set_option maxRecDepth 1000000 in
theorem k_387_49 : ckM 230 sp_387 us_387 ic_387 20000 35 36 os_387 (c_387_0 :: K_387) c_387_49 = true := by decide +kernel
set_option maxRecDepth 1000000 in
theorem k_387_50 : ckM 230 sp_387 us_387 ic_387 20000 35 36 os_387 (c_387_0 :: K_387) c_387_50 = true := by decide +kernel
set_option maxRecDepth 1000000 in
theorem k_387_51 : ckM 230 sp_387 us_387 ic_387 20000 35 36 os_387 (c_387_0 :: K_387) c_387_51 = true := by decide +kernel
set_option maxRecDepth 1000000 in
theorem k_387_52 : ckM 230 sp_387 us_387 ic_387 20000 35 36 os_387 (c_387_0 :: K_387) c_387_52 = true := by decide +kernel
set_option maxRecDepth 1000000 in
theorem k_387_53 : ckM 230 sp_387 us_387 ic_387 20000 35 36 os_387 (c_387_0 :: K_387) c_387_53 = true := by decide +kernel
set_option maxRecDepth 1000000 in
theorem k_387_54 : ckM 230 sp_387 us_387 ic_387 20000 35 36 os_387 (c_387_0 :: K_387) c_387_54 = true := by decide +kernel
set_option maxRecDepth 1000000 in
theorem k_387_55 : ckM 230 sp_387 us_387 ic_387 20000 35 36 os_387 (c_387_0 :: K_387) c_387_55 = true := by decide +kernel
set_option maxRecDepth 1000000 in
theorem k_387_56 : ckM 230 sp_387 us_387 ic_387 20000 35 36 os_387 (c_387_0 :: K_387) c_387_56 = true := by decide +kernel
set_option maxRecDepth 1000000 in
theorem k_387_57 : ckM 230 sp_387 us_387 ic_387 20000 35 36 os_387 (c_387_0 :: K_387) c_387_57 = true := by decide +kernel
set_option maxRecDepth 1000000 in
theorem k_387_58 : ckM 230 sp_387 us_387 ic_387 20000 35 36 os_387 (c_387_0 :: K_387) c_387_58 = true := by decide +kernel
set_option maxRecDepth 1000000 in
theorem k_387_59 : ckM 230 sp_387 us_387 ic_387 20000 35 36 os_387 (c_387_0 :: K_387) c_387_59 = true := by decide +kernel
set_option maxRecDepth 1000000 in
theorem k_387_60 : ckM 230 sp_387 us_387 ic_387 20000 35 36 os_387 (c_387_0 :: K_387) c_387_60 = true := by decide +kernel
set_option maxRecDepth 1000000 in
theorem k_387_61 : ckM 230 sp_387 us_387 ic_387 20000 35 36 os_387 (c_387_0 :: K_387) c_387_61 = true := by decide +kernel
set_option maxRecDepth 1000000 in
theorem k_387_62 : ckM 230 sp_387 us_387 ic_387 20000 35 36 os_387 (c_387_0 :: K_387) c_387_62 = true := by decide +kernel
set_option maxRecDepth 1000000 in
theorem k_387_63 : ckM 230 sp_387 us_387 ic_387 20000 35 36 os_387 (c_387_0 :: K_387) c_387_63 = true := by decide +kernel
set_option maxRecDepth 1000000 in
theorem k_387_64 : ckM 230 sp_387 us_387 ic_387 20000 35 36 os_387 (c_387_0 :: K_387) c_387_64 = true := by decide +kernel
set_option maxRecDepth 1000000 in
theorem k_387_65 : ckM 230 sp_387 us_387 ic_387 20000 35 36 os_387 (c_387_0 :: K_387) c_387_65 = true := by decide +kernel
set_option maxRecDepth 1000000 in
theorem k_387_66 : ckM 230 sp_387 us_387 ic_387 20000 35 36 os_387 (c_387_0 :: K_387) c_387_66 = true := by decide +kernel
set_option maxRecDepth 1000000 in
theorem k_387_67 : ckM 230 sp_387 us_387 ic_387 20000 35 36 os_387 (c_387_0 :: K_387) c_387_67 = true := by decide +kernel
set_option maxRecDepth 1000000 in
theorem k_387_68 : ckM 230 sp_387 us_387 ic_387 20000 35 36 os_387 (c_387_0 :: K_387) c_387_68 = true := by decide +kernel
set_option maxRecDepth 1000000 in
theorem k_387_69 : ckM 230 sp_387 us_387 ic_387 20000 35 36 os_387 (c_387_0 :: K_387) c_387_69 = true := by decide +kernel
set_option maxRecDepth 1000000 in
theorem k_387_70 : ckM 230 sp_387 us_387 ic_387 20000 35 36 os_387 (c_387_0 :: K_387) c_387_70 = true := by decide +kernel
