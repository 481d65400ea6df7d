/-! ===== CONTRACTS, 31.m026 ===== -/
set_option maxRecDepth 1000000 in
theorem k_471_3 : ckM 230 sp_471 us_471 ic_471 20000 36 36 os_471 (c_471_0 :: K_471) c_471_3 = true := by decide +kernel
set_option maxRecDepth 1000000 in
theorem k_471_4 : ckM 230 sp_471 us_471 ic_471 20000 36 36 os_471 (c_471_0 :: K_471) c_471_4 = true := by decide +kernel
set_option maxRecDepth 1000000 in
theorem k_471_5 : ckM 230 sp_471 us_471 ic_471 20000 36 36 os_471 (c_471_0 :: K_471) c_471_5 = true := by decide +kernel
set_option maxRecDepth 1000000 in
theorem k_471_6 : ckM 230 sp_471 us_471 ic_471 20000 36 36 os_471 (c_471_0 :: K_471) c_471_6 = true := by decide +kernel
set_option maxRecDepth 1000000 in
theorem k_471_7 : ckM 230 sp_471 us_471 ic_471 20000 36 36 os_471 (c_471_0 :: K_471) c_471_7 = true := by decide +kernel
set_option maxRecDepth 1000000 in
theorem k_471_8 : ckM 230 sp_471 us_471 ic_471 20000 36 36 os_471 (c_471_0 :: K_471) c_471_8 = true := by decide +kernel
set_option maxRecDepth 1000000 in
theorem k_471_9 : ckM 230 sp_471 us_471 ic_471 20000 36 36 os_471 (c_471_0 :: K_471) c_471_9 = true := by decide +kernel
set_option maxRecDepth 1000000 in
theorem k_471_10 : ckM 230 sp_471 us_471 ic_471 20000 36 36 os_471 (c_471_0 :: K_471) c_471_10 = true := by decide +kernel
set_option maxRecDepth 1000000 in
theorem k_471_11 : ckM 230 sp_471 us_471 ic_471 20000 36 36 os_471 (c_471_0 :: K_471) c_471_11 = true := by decide +kernel
set_option maxRecDepth 1000000 in
theorem k_471_12 : ckM 230 sp_471 us_471 ic_471 20000 36 36 os_471 (c_471_0 :: K_471) c_471_12 = true := by decide +kernel
set_option maxRecDepth 1000000 in
theorem k_471_13 : ckM 230 sp_471 us_471 ic_471 20000 36 36 os_471 (c_471_0 :: K_471) c_471_13 = true := by decide +kernel
set_option maxRecDepth 1000000 in
theorem k_471_14 : ckM 230 sp_471 us_471 ic_471 20000 36 36 os_471 (c_471_0 :: K_471) c_471_14 = true := by decide +kernel
set_option maxRecDepth 1000000 in
theorem k_471_15 : ckM 230 sp_471 us_471 ic_471 20000 36 36 os_471 (c_471_0 :: K_471) c_471_15 = true := by decide +kernel
set_option maxRecDepth 1000000 in
theorem k_471_16 : ckM 230 sp_471 us_471 ic_471 20000 36 36 os_471 (c_471_0 :: K_471) c_471_16 = true := by decide +kernel
set_option maxRecDepth 1000000 in
theorem k_471_17 : ckM 230 sp_471 us_471 ic_471 20000 36 36 os_471 (c_471_0 :: K_471) c_471_17 = true := by decide +kernel
set_option maxRecDepth 1000000 in
theorem k_471_18 : ckM 230 sp_471 us_471 ic_471 20000 36 36 os_471 (c_471_0 :: K_471) c_471_18 = true := by decide +kernel
set_option maxRecDepth 1000000 in
theorem k_471_19 : ckM 230 sp_471 us_471 ic_471 20000 36 36 os_471 (c_471_0 :: K_471) c_471_19 = true := by decide +kernel
set_option maxRecDepth 1000000 in
theorem k_471_20 : ckM 230 sp_471 us_471 ic_471 20000 36 36 os_471 (c_471_0 :: K_471) c_471_20 = true := by decide +kernel
set_option maxRecDepth 1000000 in
theorem k_471_21 : ckM 230 sp_471 us_471 ic_471 20000 36 36 os_471 (c_471_0 :: K_471) c_471_21 = true := by decide +kernel
set_option maxRecDepth 1000000 in
theorem k_471_22 : ckM 230 sp_471 us_471 ic_471 20000 36 36 os_471 (c_471_0 :: K_471) c_471_22 = true := by decide +kernel
set_option maxRecDepth 1000000 in
theorem k_471_23 : ckM 230 sp_471 us_471 ic_471 20000 36 36 os_471 (c_471_0 :: K_471) c_471_23 = true := by decide +kernel
set_option maxRecDepth 1000000 in
theorem k_471_24 : ckM 230 sp_471 us_471 ic_471 20000 36 36 os_471 (c_471_0 :: K_471) c_471_24 = true := by decide +kernel
set_option maxRecDepth 1000000 in
theorem k_471_25 : ckM 230 sp_471 us_471 ic_471 20000 36 36 os_471 (c_471_0 :: K_471) c_471_25 = true := by decide +kernel
set_option maxRecDepth 1000000 in
theorem k_471_26 : ckM 230 sp_471 us_471 ic_471 20000 36 36 os_471 (c_471_0 :: K_471) c_471_26 = true := by decide +kernel
set_option maxRecDepth 1000000 in
theorem k_471_27 : ckM 230 sp_471 us_471 ic_471 20000 36 36 os_471 (c_471_0 :: K_471) c_471_27 = true := by decide +kernel
set_option maxRecDepth 1000000 in
theorem k_471_28 : ckM 230 sp_471 us_471 ic_471 20000 36 36 os_471 (c_471_0 :: K_471) c_471_28 = true := by decide +kernel
set_option maxRecDepth 1000000 in
theorem k_471_29 : ckM 230 sp_471 us_471 ic_471 20000 36 36 os_471 (c_471_0 :: K_471) c_471_29 = true := by decide +kernel
set_option maxRecDepth 1000000 in
theorem k_471_30 : ckM 230 sp_471 us_471 ic_471 20000 36 36 os_471 (c_471_0 :: K_471) c_471_30 = true := by decide +kernel
set_option maxRecDepth 1000000 in
theorem k_471_31 : ckM 230 sp_471 us_471 ic_471 20000 36 36 os_471 (c_471_0 :: K_471) c_471_31 = true := by decide +kernel
set_option maxRecDepth 1000000 in
theorem k_471_32 : ckM 230 sp_471 us_471 ic_471 20000 36 36 os_471 (c_471_0 :: K_471) c_471_32 = true := by decide +kernel
set_option maxRecDepth 1000000 in
theorem k_471_33 : ckM 230 sp_471 us_471 ic_471 20000 36 36 os_471 (c_471_0 :: K_471) c_471_33 = true := by decide +kernel
set_option maxRecDepth 1000000 in
theorem k_471_34 : ckM 230 sp_471 us_471 ic_471 20000 36 36 os_471 (c_471_0 :: K_471) c_471_34 = true := by decide +kernel
set_option maxRecDepth 1000000 in
theorem k_471_35 : ckM 230 sp_471 us_471 ic_471 20000 36 36 os_471 (c_471_0 :: K_471) c_471_35 = true := by decide +kernel
set_option maxRecDepth 1000000 in
theorem k_471_36 : ckM 230 sp_471 us_471 ic_471 20000 36 36 os_471 (c_471_0 :: K_471) c_471_36 = true := by decide +kernel
set_option maxRecDepth 1000000 in
theorem k_471_37 : ckM 230 sp_471 us_471 ic_471 20000 36 36 os_471 (c_471_0 :: K_471) c_471_37 = true := by decide +kernel
set_option maxRecDepth 1000000 in
theorem k_471_38 : ckM 230 sp_471 us_471 ic_471 20000 36 36 os_471 (c_471_0 :: K_471) c_471_38 = true := by decide +kernel
set_option maxRecDepth 1000000 in
theorem k_471_39 : ckM 230 sp_471 us_471 ic_471 20000 36 36 os_471 (c_471_0 :: K_471) c_471_39 = true := by decide +kernel
set_option maxRecDepth 1000000 in
theorem k_471_40 : ckM 230 sp_471 us_471 ic_471 20000 36 36 os_471 (c_471_0 :: K_471) c_471_40 = true := by decide +kernel
set_option maxRecDepth 1000000 in
theorem k_471_41 : ckM 230 sp_471 us_471 ic_471 20000 36 36 os_471 (c_471_0 :: K_471) c_471_41 = true := by decide +kernel
set_option maxRecDepth 1000000 in
theorem k_471_42 : ckM 230 sp_471 us_471 ic_471 20000 36 36 os_471 (c_471_0 :: K_471) c_471_42 = true := by decide +kernel
set_option maxRecDepth 1000000 in
theorem k_471_43 : ckM 230 sp_471 us_471 ic_471 20000 36 36 os_471 (c_471_0 :: K_471) c_471_43 = true := by decide +kernel
set_option maxRecDepth 1000000 in
theorem k_471_44 : ckM 230 sp_471 us_471 ic_471 20000 36 36 os_471 (c_471_0 :: K_471) c_471_44 = true := by decide +kernel
set_option maxRecDepth 1000000 in
theorem k_471_45 : ckM 230 sp_471 us_471 ic_471 20000 36 36 os_471 (c_471_0 :: K_471) c_471_45 = true := by decide +kernel
set_option maxRecDepth 1000000 in
theorem k_471_46 : ckM 230 sp_471 us_471 ic_471 20000 36 36 os_471 (c_471_0 :: K_471) c_471_46 = true := by decide +kernel
set_option maxRecDepth 1000000 in
theorem k_471_47 : ckM 230 sp_471 us_471 ic_471 20000 36 36 os_471 (c_471_0 :: K_471) c_471_47 = true := by decide +kernel
set_option maxRecDepth 1000000 in
theorem k_471_48 : ckM 230 sp_471 us_471 ic_471 20000 36 36 os_471 (c_471_0 :: K_471) c_471_48 = true := by decide +kernel
set_option maxRecDepth 1000000 in
theorem k_471_49 : ckM 230 sp_471 us_471 ic_471 20000 36 36 os_471 (c_471_0 :: K_471) c_471_49 = true := by decide +kernel
set_option maxRecDepth 1000000 in
theorem k_471_50 : ckM 230 sp_471 us_471 ic_471 20000 36 36 os_471 (c_471_0 :: K_471) c_471_50 = true := by decide +kernel
set_option maxRecDepth 1000000 in
theorem k_471_51 : ckM 230 sp_471 us_471 ic_471 20000 36 36 os_471 (c_471_0 :: K_471) c_471_51 = true := by decide +kernel
set_option maxRecDepth 1000000 in
theorem k_471_52 : ckM 230 sp_471 us_471 ic_471 20000 36 36 os_471 (c_471_0 :: K_471) c_471_52 = true := by decide +kernel
set_option maxRecDepth 1000000 in
theorem k_471_53 : ckM 230 sp_471 us_471 ic_471 20000 36 36 os_471 (c_471_0 :: K_471) c_471_53 = true := by decide +kernel
set_option maxRecDepth 1000000 in
theorem k_471_54 : ckM 230 sp_471 us_471 ic_471 20000 36 36 os_471 (c_471_0 :: K_471) c_471_54 = true := by decide +kernel
set_option maxRecDepth 1000000 in
theorem k_471_55 : ckM 230 sp_471 us_471 ic_471 20000 36 36 os_471 (c_471_0 :: K_471) c_471_55 = true := by decide +kernel
set_option maxRecDepth 1000000 in
theorem k_471_56 : ckM 230 sp_471 us_471 ic_471 20000 36 36 os_471 (c_471_0 :: K_471) c_471_56 = true := by decide +kernel
set_option maxRecDepth 1000000 in
theorem k_471_57 : ckM 230 sp_471 us_471 ic_471 20000 36 36 os_471 (c_471_0 :: K_471) c_471_57 = true := by decide +kernel
set_option maxRecDepth 1000000 in
theorem k_471_58 : ckM 230 sp_471 us_471 ic_471 20000 36 36 os_471 (c_471_0 :: K_471) c_471_58 = true := by decide +kernel
set_option maxRecDepth 1000000 in
theorem k_471_59 : ckM 230 sp_471 us_471 ic_471 20000 36 36 os_471 (c_471_0 :: K_471) c_471_59 = true := by decide +kernel
set_option maxRecDepth 1000000 in
theorem k_471_60 : ckM 230 sp_471 us_471 ic_471 20000 36 36 os_471 (c_471_0 :: K_471) c_471_60 = true := by decide +kernel
set_option maxRecDepth 1000000 in
theorem k_471_61 : ckM 230 sp_471 us_471 ic_471 20000 36 36 os_471 (c_471_0 :: K_471) c_471_61 = true := by decide +kernel
set_option maxRecDepth 1000000 in
theorem k_471_62 : ckM 230 sp_471 us_471 ic_471 20000 36 36 os_471 (c_471_0 :: K_471) c_471_62 = true := by decide +kernel
set_option maxRecDepth 1000000 in
theorem k_471_63 : ckM 230 sp_471 us_471 ic_471 20000 36 36 os_471 (c_471_0 :: K_471) c_471_63 = true := by decide +kernel
set_option maxRecDepth 1000000 in
theorem k_471_64 : ckM 230 sp_471 us_471 ic_471 20000 36 36 os_471 (c_471_0 :: K_471) c_471_64 = true := by decide +kernel
set_option maxRecDepth 1000000 in
theorem k_471_65 : ckM 230 sp_471 us_471 ic_471 20000 36 36 os_471 (c_471_0 :: K_471) c_471_65 = true := by decide +kernel
set_option maxRecDepth 1000000 in
theorem k_471_66 : ckM 230 sp_471 us_471 ic_471 20000 36 36 os_471 (c_471_0 :: K_471) c_471_66 = true := by decide +kernel
set_option maxRecDepth 1000000 in
theorem k_471_67 : ckM 230 sp_471 us_471 ic_471 20000 36 36 os_471 (c_471_0 :: K_471) c_471_67 = true := by decide +kernel
set_option maxRecDepth 1000000 in
theorem k_471_68 : ckM 230 sp_471 us_471 ic_471 20000 36 36 os_471 (c_471_0 :: K_471) c_471_68 = true := by decide +kernel
set_option maxRecDepth 1000000 in
theorem k_471_69 : ckM 230 sp_471 us_471 ic_471 20000 36 36 os_471 (c_471_0 :: K_471) c_471_69 = true := by decide +kernel
set_option maxRecDepth 1000000 in
theorem k_471_70 : ckM 230 sp_471 us_471 ic_471 20000 36 36 os_471 (c_471_0 :: K_471) c_471_70 = true := by decide +kernel
set_option maxRecDepth 1000000 in
theorem k_471_71 : ckM 230 sp_471 us_471 ic_471 20000 36 36 os_471 (c_471_0 :: K_471) c_471_71 = true := by decide +kernel
set_option maxRecDepth 1000000 in
theorem k_471_72 : ckM 230 sp_471 us_471 ic_471 20000 36 36 os_471 (c_471_0 :: K_471) c_471_72 = true := by decide +kernel
set_option maxRecDepth 1000000 in
theorem k_471_73 : ckM 230 sp_471 us_471 ic_471 20000 36 36 os_471 (c_471_0 :: K_471) c_471_73 = true := by decide +kernel
set_option maxRecDepth 1000000 in
theorem k_471_74 : ckM 230 sp_471 us_471 ic_471 20000 36 36 os_471 (c_471_0 :: K_471) c_471_74 = true := by decide +kernel
set_option maxRecDepth 1000000 in
theorem k_471_75 : ckM 230 sp_471 us_471 ic_471 20000 36 36 os_471 (c_471_0 :: K_471) c_471_75 = true := by decide +kernel
set_option maxRecDepth 1000000 in
theorem k_471_76 : ckM 230 sp_471 us_471 ic_471 20000 36 36 os_471 (c_471_0 :: K_471) c_471_76 = true := by decide +kernel
set_option maxRecDepth 1000000 in
theorem k_471_77 : ckM 230 sp_471 us_471 ic_471 20000 36 36 os_471 (c_471_0 :: K_471) c_471_77 = true := by decide +kernel
set_option maxRecDepth 1000000 in
theorem k_471_78 : ckM 230 sp_471 us_471 ic_471 20000 36 36 os_471 (c_471_0 :: K_471) c_471_78 = true := by decide +kernel
set_option maxRecDepth 1000000 in
theorem k_471_79 : ckM 230 sp_471 us_471 ic_471 20000 36 36 os_471 (c_471_0 :: K_471) c_471_79 = true := by decide +kernel
set_option maxRecDepth 1000000 in
theorem k_471_80 : ckM 230 sp_471 us_471 ic_471 20000 36 36 os_471 (c_471_0 :: K_471) c_471_80 = true := by decide +kernel
set_option maxRecDepth 1000000 in
theorem k_471_81 : ckM 230 sp_471 us_471 ic_471 20000 36 36 os_471 (c_471_0 :: K_471) c_471_81 = true := by decide +kernel
set_option maxRecDepth 1000000 in
theorem k_471_82 : ckM 230 sp_471 us_471 ic_471 20000 36 36 os_471 (c_471_0 :: K_471) c_471_82 = true := by decide +kernel
set_option maxRecDepth 1000000 in
theorem k_471_83 : ckM 230 sp_471 us_471 ic_471 20000 36 36 os_471 (c_471_0 :: K_471) c_471_83 = true := by decide +kernel
set_option maxRecDepth 1000000 in
theorem k_471_84 : ckM 230 sp_471 us_471 ic_471 20000 36 36 os_471 (c_471_0 :: K_471) c_471_84 = true := by decide +kernel
set_option maxRecDepth 1000000 in
theorem k_471_85 : ckM 230 sp_471 us_471 ic_471 20000 36 36 os_471 (c_471_0 :: K_471) c_471_85 = true := by decide +kernel
set_option maxRecDepth 1000000 in
theorem k_471_86 : ckM 230 sp_471 us_471 ic_471 20000 36 36 os_471 (c_471_0 :: K_471) c_471_86 = true := by decide +kernel
set_option maxRecDepth 1000000 in
theorem k_471_87 : ckM 230 sp_471 us_471 ic_471 20000 36 36 os_471 (c_471_0 :: K_471) c_471_87 = true := by decide +kernel
set_option maxRecDepth 1000000 in
theorem k_471_88 : ckM 230 sp_471 us_471 ic_471 20000 36 36 os_471 (c_471_0 :: K_471) c_471_88 = true := by decide +kernel
set_option maxRecDepth 1000000 in
theorem k_471_89 : ckM 230 sp_471 us_471 ic_471 20000 36 36 os_471 (c_471_0 :: K_471) c_471_89 = true := by decide +kernel
