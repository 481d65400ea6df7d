/-! ===== CONTRACTS, 31.m032 ===== -/
set_option maxRecDepth 1000000 in
theorem k_369_3 : ckM 230 sp_369 us_369 ic_369 20000 35 36 os_369 (c_369_0 :: K_369) c_369_3 = true := by decide +kernel
set_option maxRecDepth 1000000 in
theorem k_369_4 : ckM 230 sp_369 us_369 ic_369 20000 35 36 os_369 (c_369_0 :: K_369) c_369_4 = true := by decide +kernel
set_option maxRecDepth 1000000 in
theorem k_369_5 : ckM 230 sp_369 us_369 ic_369 20000 35 36 os_369 (c_369_0 :: K_369) c_369_5 = true := by decide +kernel
set_option maxRecDepth 1000000 in
theorem k_369_6 : ckM 230 sp_369 us_369 ic_369 20000 35 36 os_369 (c_369_0 :: K_369) c_369_6 = true := by decide +kernel
set_option maxRecDepth 1000000 in
theorem k_369_7 : ckM 230 sp_369 us_369 ic_369 20000 35 36 os_369 (c_369_0 :: K_369) c_369_7 = true := by decide +kernel
set_option maxRecDepth 1000000 in
theorem k_369_8 : ckM 230 sp_369 us_369 ic_369 20000 35 36 os_369 (c_369_0 :: K_369) c_369_8 = true := by decide +kernel
set_option maxRecDepth 1000000 in
theorem k_369_9 : ckM 230 sp_369 us_369 ic_369 20000 35 36 os_369 (c_369_0 :: K_369) c_369_9 = true := by decide +kernel
set_option maxRecDepth 1000000 in
theorem k_369_10 : ckM 230 sp_369 us_369 ic_369 20000 35 36 os_369 (c_369_0 :: K_369) c_369_10 = true := by decide +kernel
set_option maxRecDepth 1000000 in
theorem k_369_11 : ckM 230 sp_369 us_369 ic_369 20000 35 36 os_369 (c_369_0 :: K_369) c_369_11 = true := by decide +kernel
set_option maxRecDepth 1000000 in
theorem k_369_12 : ckM 230 sp_369 us_369 ic_369 20000 35 36 os_369 (c_369_0 :: K_369) c_369_12 = true := by decide +kernel
set_option maxRecDepth 1000000 in
theorem k_369_13 : ckM 230 sp_369 us_369 ic_369 20000 35 36 os_369 (c_369_0 :: K_369) c_369_13 = true := by decide +kernel
set_option maxRecDepth 1000000 in
theorem k_369_14 : ckM 230 sp_369 us_369 ic_369 20000 35 36 os_369 (c_369_0 :: K_369) c_369_14 = true := by decide +kernel
set_option maxRecDepth 1000000 in
theorem k_369_15 : ckM 230 sp_369 us_369 ic_369 20000 35 36 os_369 (c_369_0 :: K_369) c_369_15 = true := by decide +kernel
set_option maxRecDepth 1000000 in
theorem k_369_16 : ckM 230 sp_369 us_369 ic_369 20000 35 36 os_369 (c_369_0 :: K_369) c_369_16 = true := by decide +kernel
set_option maxRecDepth 1000000 in
theorem k_369_17 : ckM 230 sp_369 us_369 ic_369 20000 35 36 os_369 (c_369_0 :: K_369) c_369_17 = true := by decide +kernel
set_option maxRecDepth 1000000 in
theorem k_369_18 : ckM 230 sp_369 us_369 ic_369 20000 35 36 os_369 (c_369_0 :: K_369) c_369_18 = true := by decide +kernel
set_option maxRecDepth 1000000 in
theorem k_369_19 : ckM 230 sp_369 us_369 ic_369 20000 35 36 os_369 (c_369_0 :: K_369) c_369_19 = true := by decide +kernel
set_option maxRecDepth 1000000 in
theorem k_369_20 : ckM 230 sp_369 us_369 ic_369 20000 35 36 os_369 (c_369_0 :: K_369) c_369_20 = true := by decide +kernel
set_option maxRecDepth 1000000 in
theorem k_369_21 : ckM 230 sp_369 us_369 ic_369 20000 35 36 os_369 (c_369_0 :: K_369) c_369_21 = true := by decide +kernel
set_option maxRecDepth 1000000 in
theorem k_369_22 : ckM 230 sp_369 us_369 ic_369 20000 35 36 os_369 (c_369_0 :: K_369) c_369_22 = true := by decide +kernel
set_option maxRecDepth 1000000 in
theorem k_369_23 : ckM 230 sp_369 us_369 ic_369 20000 35 36 os_369 (c_369_0 :: K_369) c_369_23 = true := by decide +kernel
set_option maxRecDepth 1000000 in
theorem k_369_24 : ckM 230 sp_369 us_369 ic_369 20000 35 36 os_369 (c_369_0 :: K_369) c_369_24 = true := by decide +kernel
set_option maxRecDepth 1000000 in
theorem k_369_25 : ckM 230 sp_369 us_369 ic_369 20000 35 36 os_369 (c_369_0 :: K_369) c_369_25 = true := by decide +kernel
set_option maxRecDepth 1000000 in
theorem k_369_26 : ckM 230 sp_369 us_369 ic_369 20000 35 36 os_369 (c_369_0 :: K_369) c_369_26 = true := by decide +kernel
set_option maxRecDepth 1000000 in
theorem k_369_27 : ckM 230 sp_369 us_369 ic_369 20000 35 36 os_369 (c_369_0 :: K_369) c_369_27 = true := by decide +kernel
set_option maxRecDepth 1000000 in
theorem k_369_28 : ckM 230 sp_369 us_369 ic_369 20000 35 36 os_369 (c_369_0 :: K_369) c_369_28 = true := by decide +kernel
set_option maxRecDepth 1000000 in
theorem k_369_29 : ckM 230 sp_369 us_369 ic_369 20000 35 36 os_369 (c_369_0 :: K_369) c_369_29 = true := by decide +kernel
set_option maxRecDepth 1000000 in
theorem k_369_30 : ckM 230 sp_369 us_369 ic_369 20000 35 36 os_369 (c_369_0 :: K_369) c_369_30 = true := by decide +kernel
set_option maxRecDepth 1000000 in
theorem k_369_31 : ckM 230 sp_369 us_369 ic_369 20000 35 36 os_369 (c_369_0 :: K_369) c_369_31 = true := by decide +kernel
set_option maxRecDepth 1000000 in
theorem k_369_32 : ckM 230 sp_369 us_369 ic_369 20000 35 36 os_369 (c_369_0 :: K_369) c_369_32 = true := by decide +kernel
set_option maxRecDepth 1000000 in
theorem k_369_33 : ckM 230 sp_369 us_369 ic_369 20000 35 36 os_369 (c_369_0 :: K_369) c_369_33 = true := by decide +kernel
set_option maxRecDepth 1000000 in
theorem k_369_34 : ckM 230 sp_369 us_369 ic_369 20000 35 36 os_369 (c_369_0 :: K_369) c_369_34 = true := by decide +kernel
set_option maxRecDepth 1000000 in
theorem k_369_35 : ckM 230 sp_369 us_369 ic_369 20000 35 36 os_369 (c_369_0 :: K_369) c_369_35 = true := by decide +kernel
set_option maxRecDepth 1000000 in
theorem k_369_36 : ckM 230 sp_369 us_369 ic_369 20000 35 36 os_369 (c_369_0 :: K_369) c_369_36 = true := by decide +kernel
set_option maxRecDepth 1000000 in
theorem k_369_37 : ckM 230 sp_369 us_369 ic_369 20000 35 36 os_369 (c_369_0 :: K_369) c_369_37 = true := by decide +kernel
set_option maxRecDepth 1000000 in
theorem k_369_38 : ckM 230 sp_369 us_369 ic_369 20000 35 36 os_369 (c_369_0 :: K_369) c_369_38 = true := by decide +kernel
set_option maxRecDepth 1000000 in
theorem k_369_39 : ckM 230 sp_369 us_369 ic_369 20000 35 36 os_369 (c_369_0 :: K_369) c_369_39 = true := by decide +kernel
set_option maxRecDepth 1000000 in
theorem k_369_40 : ckM 230 sp_369 us_369 ic_369 20000 35 36 os_369 (c_369_0 :: K_369) c_369_40 = true := by decide +kernel
set_option maxRecDepth 1000000 in
theorem k_369_41 : ckM 230 sp_369 us_369 ic_369 20000 35 36 os_369 (c_369_0 :: K_369) c_369_41 = true := by decide +kernel
set_option maxRecDepth 1000000 in
theorem k_369_42 : ckM 230 sp_369 us_369 ic_369 20000 35 36 os_369 (c_369_0 :: K_369) c_369_42 = true := by decide +kernel
set_option maxRecDepth 1000000 in
theorem k_369_43 : ckM 230 sp_369 us_369 ic_369 20000 35 36 os_369 (c_369_0 :: K_369) c_369_43 = true := by decide +kernel
set_option maxRecDepth 1000000 in
theorem k_369_44 : ckM 230 sp_369 us_369 ic_369 20000 35 36 os_369 (c_369_0 :: K_369) c_369_44 = true := by decide +kernel
set_option maxRecDepth 1000000 in
theorem k_369_45 : ckM 230 sp_369 us_369 ic_369 20000 35 36 os_369 (c_369_0 :: K_369) c_369_45 = true := by decide +kernel
set_option maxRecDepth 1000000 in
theorem k_369_46 : ckM 230 sp_369 us_369 ic_369 20000 35 36 os_369 (c_369_0 :: K_369) c_369_46 = true := by decide +kernel
set_option maxRecDepth 1000000 in
theorem k_369_47 : ckM 230 sp_369 us_369 ic_369 20000 35 36 os_369 (c_369_0 :: K_369) c_369_47 = true := by decide +kernel
set_option maxRecDepth 1000000 in
theorem k_369_48 : ckM 230 sp_369 us_369 ic_369 20000 35 36 os_369 (c_369_0 :: K_369) c_369_48 = true := by decide +kernel
set_option maxRecDepth 1000000 in
theorem k_369_49 : ckM 230 sp_369 us_369 ic_369 20000 35 36 os_369 (c_369_0 :: K_369) c_369_49 = true := by decide +kernel
set_option maxRecDepth 1000000 in
theorem k_369_50 : ckM 230 sp_369 us_369 ic_369 20000 35 36 os_369 (c_369_0 :: K_369) c_369_50 = true := by decide +kernel
set_option maxRecDepth 1000000 in
theorem k_369_51 : ckM 230 sp_369 us_369 ic_369 20000 35 36 os_369 (c_369_0 :: K_369) c_369_51 = true := by decide +kernel
set_option maxRecDepth 1000000 in
theorem k_369_52 : ckM 230 sp_369 us_369 ic_369 20000 35 36 os_369 (c_369_0 :: K_369) c_369_52 = true := by decide +kernel
set_option maxRecDepth 1000000 in
theorem k_369_53 : ckM 230 sp_369 us_369 ic_369 20000 35 36 os_369 (c_369_0 :: K_369) c_369_53 = true := by decide +kernel
set_option maxRecDepth 1000000 in
theorem k_369_54 : ckM 230 sp_369 us_369 ic_369 20000 35 36 os_369 (c_369_0 :: K_369) c_369_54 = true := by decide +kernel
set_option maxRecDepth 1000000 in
theorem k_369_55 : ckM 230 sp_369 us_369 ic_369 20000 35 36 os_369 (c_369_0 :: K_369) c_369_55 = true := by decide +kernel
set_option maxRecDepth 1000000 in
theorem k_369_56 : ckM 230 sp_369 us_369 ic_369 20000 35 36 os_369 (c_369_0 :: K_369) c_369_56 = true := by decide +kernel
set_option maxRecDepth 1000000 in
theorem k_369_57 : ckM 230 sp_369 us_369 ic_369 20000 35 36 os_369 (c_369_0 :: K_369) c_369_57 = true := by decide +kernel
set_option maxRecDepth 1000000 in
theorem k_369_58 : ckM 230 sp_369 us_369 ic_369 20000 35 36 os_369 (c_369_0 :: K_369) c_369_58 = true := by decide +kernel
set_option maxRecDepth 1000000 in
theorem k_369_59 : ckM 230 sp_369 us_369 ic_369 20000 35 36 os_369 (c_369_0 :: K_369) c_369_59 = true := by decide +kernel
set_option maxRecDepth 1000000 in
theorem k_369_60 : ckM 230 sp_369 us_369 ic_369 20000 35 36 os_369 (c_369_0 :: K_369) c_369_60 = true := by decide +kernel
set_option maxRecDepth 1000000 in
theorem k_369_61 : ckM 230 sp_369 us_369 ic_369 20000 35 36 os_369 (c_369_0 :: K_369) c_369_61 = true := by decide +kernel
set_option maxRecDepth 1000000 in
theorem k_369_62 : ckM 230 sp_369 us_369 ic_369 20000 35 36 os_369 (c_369_0 :: K_369) c_369_62 = true := by decide +kernel
set_option maxRecDepth 1000000 in
theorem k_369_63 : ckM 230 sp_369 us_369 ic_369 20000 35 36 os_369 (c_369_0 :: K_369) c_369_63 = true := by decide +kernel
set_option maxRecDepth 1000000 in
theorem k_369_64 : ckM 230 sp_369 us_369 ic_369 20000 35 36 os_369 (c_369_0 :: K_369) c_369_64 = true := by decide +kernel
set_option maxRecDepth 1000000 in
theorem k_369_65 : ckM 230 sp_369 us_369 ic_369 20000 35 36 os_369 (c_369_0 :: K_369) c_369_65 = true := by decide +kernel
set_option maxRecDepth 1000000 in
theorem k_369_66 : ckM 230 sp_369 us_369 ic_369 20000 35 36 os_369 (c_369_0 :: K_369) c_369_66 = true := by decide +kernel
set_option maxRecDepth 1000000 in
theorem k_369_67 : ckM 230 sp_369 us_369 ic_369 20000 35 36 os_369 (c_369_0 :: K_369) c_369_67 = true := by decide +kernel
set_option maxRecDepth 1000000 in
theorem k_369_68 : ckM 230 sp_369 us_369 ic_369 20000 35 36 os_369 (c_369_0 :: K_369) c_369_68 = true := by decide +kernel
set_option maxRecDepth 1000000 in
theorem k_369_69 : ckM 230 sp_369 us_369 ic_369 20000 35 36 os_369 (c_369_0 :: K_369) c_369_69 = true := by decide +kernel
set_option maxRecDepth 1000000 in
theorem k_369_70 : ckM 230 sp_369 us_369 ic_369 20000 35 36 os_369 (c_369_0 :: K_369) c_369_70 = true := by decide +kernel
set_option maxRecDepth 1000000 in
theorem k_369_71 : ckM 230 sp_369 us_369 ic_369 20000 35 36 os_369 (c_369_0 :: K_369) c_369_71 = true := by decide +kernel
set_option maxRecDepth 1000000 in
theorem k_369_72 : ckM 230 sp_369 us_369 ic_369 20000 35 36 os_369 (c_369_0 :: K_369) c_369_72 = true := by decide +kernel
set_option maxRecDepth 1000000 in
theorem k_369_73 : ckM 230 sp_369 us_369 ic_369 20000 35 36 os_369 (c_369_0 :: K_369) c_369_73 = true := by decide +kernel
set_option maxRecDepth 1000000 in
theorem k_369_74 : ckM 230 sp_369 us_369 ic_369 20000 35 36 os_369 (c_369_0 :: K_369) c_369_74 = true := by decide +kernel
set_option maxRecDepth 1000000 in
theorem k_369_75 : ckM 230 sp_369 us_369 ic_369 20000 35 36 os_369 (c_369_0 :: K_369) c_369_75 = true := by decide +kernel
set_option maxRecDepth 1000000 in
theorem k_369_76 : ckM 230 sp_369 us_369 ic_369 20000 35 36 os_369 (c_369_0 :: K_369) c_369_76 = true := by decide +kernel
set_option maxRecDepth 1000000 in
theorem k_369_77 : ckM 230 sp_369 us_369 ic_369 20000 35 36 os_369 (c_369_0 :: K_369) c_369_77 = true := by decide +kernel
set_option maxRecDepth 1000000 in
theorem k_369_78 : ckM 230 sp_369 us_369 ic_369 20000 35 36 os_369 (c_369_0 :: K_369) c_369_78 = true := by decide +kernel
set_option maxRecDepth 1000000 in
theorem k_369_79 : ckM 230 sp_369 us_369 ic_369 20000 35 36 os_369 (c_369_0 :: K_369) c_369_79 = true := by decide +kernel
set_option maxRecDepth 1000000 in
theorem k_369_80 : ckM 230 sp_369 us_369 ic_369 20000 35 36 os_369 (c_369_0 :: K_369) c_369_80 = true := by decide +kernel
set_option maxRecDepth 1000000 in
theorem k_369_81 : ckM 230 sp_369 us_369 ic_369 20000 35 36 os_369 (c_369_0 :: K_369) c_369_81 = true := by decide +kernel
set_option maxRecDepth 1000000 in
theorem k_369_82 : ckM 230 sp_369 us_369 ic_369 20000 35 36 os_369 (c_369_0 :: K_369) c_369_82 = true := by decide +kernel
set_option maxRecDepth 1000000 in
theorem k_369_83 : ckM 230 sp_369 us_369 ic_369 20000 35 36 os_369 (c_369_0 :: K_369) c_369_83 = true := by decide +kernel
set_option maxRecDepth 1000000 in
theorem k_369_84 : ckM 230 sp_369 us_369 ic_369 20000 35 36 os_369 (c_369_0 :: K_369) c_369_84 = true := by decide +kernel
set_option maxRecDepth 1000000 in
theorem k_369_85 : ckM 230 sp_369 us_369 ic_369 20000 35 36 os_369 (c_369_0 :: K_369) c_369_85 = true := by decide +kernel
set_option maxRecDepth 1000000 in
theorem k_369_86 : ckM 230 sp_369 us_369 ic_369 20000 35 36 os_369 (c_369_0 :: K_369) c_369_86 = true := by decide +kernel
set_option maxRecDepth 1000000 in
theorem k_369_87 : ckM 230 sp_369 us_369 ic_369 20000 35 36 os_369 (c_369_0 :: K_369) c_369_87 = true := by decide +kernel
set_option maxRecDepth 1000000 in
theorem k_369_88 : ckM 230 sp_369 us_369 ic_369 20000 35 36 os_369 (c_369_0 :: K_369) c_369_88 = true := by decide +kernel
set_option maxRecDepth 1000000 in
theorem k_369_89 : ckM 230 sp_369 us_369 ic_369 20000 35 36 os_369 (c_369_0 :: K_369) c_369_89 = true := by decide +kernel
set_option maxRecDepth 1000000 in
theorem k_369_90 : ckM 230 sp_369 us_369 ic_369 20000 35 36 os_369 (c_369_0 :: K_369) c_369_90 = true := by decide +kernel
set_option maxRecDepth 1000000 in
theorem k_369_91 : ckM 230 sp_369 us_369 ic_369 20000 35 36 os_369 (c_369_0 :: K_369) c_369_91 = true := by decide +kernel
