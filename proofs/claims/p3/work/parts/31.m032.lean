/-! ===== CONTRACTS, 31.m032 ===== -/
set_option maxRecDepth 1000000 in
theorem k_472_55 : ckM 230 sp_472 us_472 ic_472 20000 36 36 os_472 (c_472_0 :: K_472) c_472_55 = true := by decide +kernel
set_option maxRecDepth 1000000 in
theorem k_472_56 : ckM 230 sp_472 us_472 ic_472 20000 36 36 os_472 (c_472_0 :: K_472) c_472_56 = true := by decide +kernel
set_option maxRecDepth 1000000 in
theorem k_472_57 : ckM 230 sp_472 us_472 ic_472 20000 36 36 os_472 (c_472_0 :: K_472) c_472_57 = true := by decide +kernel
set_option maxRecDepth 1000000 in
theorem k_472_58 : ckM 230 sp_472 us_472 ic_472 20000 36 36 os_472 (c_472_0 :: K_472) c_472_58 = true := by decide +kernel
set_option maxRecDepth 1000000 in
theorem k_472_59 : ckM 230 sp_472 us_472 ic_472 20000 36 36 os_472 (c_472_0 :: K_472) c_472_59 = true := by decide +kernel
set_option maxRecDepth 1000000 in
theorem k_472_60 : ckM 230 sp_472 us_472 ic_472 20000 36 36 os_472 (c_472_0 :: K_472) c_472_60 = true := by decide +kernel
set_option maxRecDepth 1000000 in
theorem k_472_61 : ckM 230 sp_472 us_472 ic_472 20000 36 36 os_472 (c_472_0 :: K_472) c_472_61 = true := by decide +kernel
set_option maxRecDepth 1000000 in
theorem k_472_62 : ckM 230 sp_472 us_472 ic_472 20000 36 36 os_472 (c_472_0 :: K_472) c_472_62 = true := by decide +kernel
set_option maxRecDepth 1000000 in
theorem k_472_63 : ckM 230 sp_472 us_472 ic_472 20000 36 36 os_472 (c_472_0 :: K_472) c_472_63 = true := by decide +kernel
set_option maxRecDepth 1000000 in
theorem k_472_64 : ckM 230 sp_472 us_472 ic_472 20000 36 36 os_472 (c_472_0 :: K_472) c_472_64 = true := by decide +kernel
set_option maxRecDepth 1000000 in
theorem k_472_65 : ckM 230 sp_472 us_472 ic_472 20000 36 36 os_472 (c_472_0 :: K_472) c_472_65 = true := by decide +kernel
set_option maxRecDepth 1000000 in
theorem k_472_66 : ckM 230 sp_472 us_472 ic_472 20000 36 36 os_472 (c_472_0 :: K_472) c_472_66 = true := by decide +kernel
set_option maxRecDepth 1000000 in
theorem k_472_67 : ckM 230 sp_472 us_472 ic_472 20000 36 36 os_472 (c_472_0 :: K_472) c_472_67 = true := by decide +kernel
set_option maxRecDepth 1000000 in
theorem k_472_68 : ckM 230 sp_472 us_472 ic_472 20000 36 36 os_472 (c_472_0 :: K_472) c_472_68 = true := by decide +kernel
set_option maxRecDepth 1000000 in
theorem k_472_69 : ckM 230 sp_472 us_472 ic_472 20000 36 36 os_472 (c_472_0 :: K_472) c_472_69 = true := by decide +kernel
set_option maxRecDepth 1000000 in
theorem k_472_70 : ckM 230 sp_472 us_472 ic_472 20000 36 36 os_472 (c_472_0 :: K_472) c_472_70 = true := by decide +kernel
set_option maxRecDepth 1000000 in
theorem k_472_71 : ckM 230 sp_472 us_472 ic_472 20000 36 36 os_472 (c_472_0 :: K_472) c_472_71 = true := by decide +kernel
set_option maxRecDepth 1000000 in
theorem k_472_72 : ckM 230 sp_472 us_472 ic_472 20000 36 36 os_472 (c_472_0 :: K_472) c_472_72 = true := by decide +kernel
set_option maxRecDepth 1000000 in
theorem k_472_73 : ckM 230 sp_472 us_472 ic_472 20000 36 36 os_472 (c_472_0 :: K_472) c_472_73 = true := by decide +kernel
set_option maxRecDepth 1000000 in
theorem k_472_74 : ckM 230 sp_472 us_472 ic_472 20000 36 36 os_472 (c_472_0 :: K_472) c_472_74 = true := by decide +kernel
set_option maxRecDepth 1000000 in
theorem k_472_75 : ckM 230 sp_472 us_472 ic_472 20000 36 36 os_472 (c_472_0 :: K_472) c_472_75 = true := by decide +kernel
set_option maxRecDepth 1000000 in
theorem k_472_76 : ckM 230 sp_472 us_472 ic_472 20000 36 36 os_472 (c_472_0 :: K_472) c_472_76 = true := by decide +kernel
set_option maxRecDepth 1000000 in
theorem k_472_77 : ckM 230 sp_472 us_472 ic_472 20000 36 36 os_472 (c_472_0 :: K_472) c_472_77 = true := by decide +kernel
set_option maxRecDepth 1000000 in
theorem k_472_78 : ckM 230 sp_472 us_472 ic_472 20000 36 36 os_472 (c_472_0 :: K_472) c_472_78 = true := by decide +kernel
set_option maxRecDepth 1000000 in
theorem k_472_79 : ckM 230 sp_472 us_472 ic_472 20000 36 36 os_472 (c_472_0 :: K_472) c_472_79 = true := by decide +kernel
set_option maxRecDepth 1000000 in
theorem k_472_80 : ckM 230 sp_472 us_472 ic_472 20000 36 36 os_472 (c_472_0 :: K_472) c_472_80 = true := by decide +kernel
set_option maxRecDepth 1000000 in
theorem k_472_81 : ckM 230 sp_472 us_472 ic_472 20000 36 36 os_472 (c_472_0 :: K_472) c_472_81 = true := by decide +kernel
set_option maxRecDepth 1000000 in
theorem k_472_82 : ckM 230 sp_472 us_472 ic_472 20000 36 36 os_472 (c_472_0 :: K_472) c_472_82 = true := by decide +kernel
set_option maxRecDepth 1000000 in
theorem k_472_83 : ckM 230 sp_472 us_472 ic_472 20000 36 36 os_472 (c_472_0 :: K_472) c_472_83 = true := by decide +kernel
set_option maxRecDepth 1000000 in
theorem k_472_84 : ckM 230 sp_472 us_472 ic_472 20000 36 36 os_472 (c_472_0 :: K_472) c_472_84 = true := by decide +kernel
set_option maxRecDepth 1000000 in
theorem k_472_85 : ckM 230 sp_472 us_472 ic_472 20000 36 36 os_472 (c_472_0 :: K_472) c_472_85 = true := by decide +kernel
set_option maxRecDepth 1000000 in
theorem k_472_86 : ckM 230 sp_472 us_472 ic_472 20000 36 36 os_472 (c_472_0 :: K_472) c_472_86 = true := by decide +kernel
set_option maxRecDepth 1000000 in
theorem k_472_87 : ckM 230 sp_472 us_472 ic_472 20000 36 36 os_472 (c_472_0 :: K_472) c_472_87 = true := by decide +kernel
set_option maxRecDepth 1000000 in
theorem k_472_88 : ckM 230 sp_472 us_472 ic_472 20000 36 36 os_472 (c_472_0 :: K_472) c_472_88 = true := by decide +kernel
set_option maxRecDepth 1000000 in
theorem k_472_89 : ckM 230 sp_472 us_472 ic_472 20000 36 36 os_472 (c_472_0 :: K_472) c_472_89 = true := by decide +kernel
set_option maxRecDepth 1000000 in
theorem k_472_90 : ckM 230 sp_472 us_472 ic_472 20000 36 36 os_472 (c_472_0 :: K_472) c_472_90 = true := by decide +kernel
set_option maxRecDepth 1000000 in
theorem k_472_91 : ckM 230 sp_472 us_472 ic_472 20000 36 36 os_472 (c_472_0 :: K_472) c_472_91 = true := by decide +kernel
set_option maxRecDepth 1000000 in
theorem k_472_92 : ckM 230 sp_472 us_472 ic_472 20000 36 36 os_472 (c_472_0 :: K_472) c_472_92 = true := by decide +kernel
set_option maxRecDepth 1000000 in
theorem k_472_93 : ckM 230 sp_472 us_472 ic_472 20000 36 36 os_472 (c_472_0 :: K_472) c_472_93 = true := by decide +kernel
set_option maxRecDepth 1000000 in
theorem k_472_94 : ckM 230 sp_472 us_472 ic_472 20000 36 36 os_472 (c_472_0 :: K_472) c_472_94 = true := by decide +kernel
set_option maxRecDepth 1000000 in
theorem k_472_95 : ckM 230 sp_472 us_472 ic_472 20000 36 36 os_472 (c_472_0 :: K_472) c_472_95 = true := by decide +kernel
set_option maxRecDepth 1000000 in
theorem k_472_96 : ckM 230 sp_472 us_472 ic_472 20000 36 36 os_472 (c_472_0 :: K_472) c_472_96 = true := by decide +kernel
set_option maxRecDepth 1000000 in
theorem k_472_97 : ckM 230 sp_472 us_472 ic_472 20000 36 36 os_472 (c_472_0 :: K_472) c_472_97 = true := by decide +kernel
set_option maxRecDepth 1000000 in
theorem k_472_98 : ckM 230 sp_472 us_472 ic_472 20000 36 36 os_472 (c_472_0 :: K_472) c_472_98 = true := by decide +kernel
set_option maxRecDepth 1000000 in
theorem k_472_99 : ckM 230 sp_472 us_472 ic_472 20000 36 36 os_472 (c_472_0 :: K_472) c_472_99 = true := by decide +kernel
set_option maxRecDepth 1000000 in
theorem k_472_100 : ckM 230 sp_472 us_472 ic_472 20000 36 36 os_472 (c_472_0 :: K_472) c_472_100 = true := by decide +kernel
set_option maxRecDepth 1000000 in
theorem k_472_101 : ckM 230 sp_472 us_472 ic_472 20000 36 36 os_472 (c_472_0 :: K_472) c_472_101 = true := by decide +kernel
set_option maxRecDepth 1000000 in
theorem k_472_102 : ckM 230 sp_472 us_472 ic_472 20000 36 36 os_472 (c_472_0 :: K_472) c_472_102 = true := by decide +kernel
set_option maxRecDepth 1000000 in
theorem k_472_103 : ckM 230 sp_472 us_472 ic_472 20000 36 36 os_472 (c_472_0 :: K_472) c_472_103 = true := by decide +kernel
