/-! ===== CONTRACTS, 31.m062 ===== -/
set_option maxRecDepth 1000000 in
theorem k_532_55 : ckM 230 sp_532 us_532 ic_532 20000 36 36 os_532 (c_532_0 :: K_532) c_532_55 = true := by decide +kernel
set_option maxRecDepth 1000000 in
theorem k_532_56 : ckM 230 sp_532 us_532 ic_532 20000 36 36 os_532 (c_532_0 :: K_532) c_532_56 = true := by decide +kernel
set_option maxRecDepth 1000000 in
theorem k_532_57 : ckM 230 sp_532 us_532 ic_532 20000 36 36 os_532 (c_532_0 :: K_532) c_532_57 = true := by decide +kernel
set_option maxRecDepth 1000000 in
theorem k_532_58 : ckM 230 sp_532 us_532 ic_532 20000 36 36 os_532 (c_532_0 :: K_532) c_532_58 = true := by decide +kernel
set_option maxRecDepth 1000000 in
theorem k_532_59 : ckM 230 sp_532 us_532 ic_532 20000 36 36 os_532 (c_532_0 :: K_532) c_532_59 = true := by decide +kernel
set_option maxRecDepth 1000000 in
theorem k_532_60 : ckM 230 sp_532 us_532 ic_532 20000 36 36 os_532 (c_532_0 :: K_532) c_532_60 = true := by decide +kernel
set_option maxRecDepth 1000000 in
theorem k_532_61 : ckM 230 sp_532 us_532 ic_532 20000 36 36 os_532 (c_532_0 :: K_532) c_532_61 = true := by decide +kernel
set_option maxRecDepth 1000000 in
theorem k_532_62 : ckM 230 sp_532 us_532 ic_532 20000 36 36 os_532 (c_532_0 :: K_532) c_532_62 = true := by decide +kernel
set_option maxRecDepth 1000000 in
theorem k_532_63 : ckM 230 sp_532 us_532 ic_532 20000 36 36 os_532 (c_532_0 :: K_532) c_532_63 = true := by decide +kernel
set_option maxRecDepth 1000000 in
theorem k_532_64 : ckM 230 sp_532 us_532 ic_532 20000 36 36 os_532 (c_532_0 :: K_532) c_532_64 = true := by decide +kernel
set_option maxRecDepth 1000000 in
theorem k_532_65 : ckM 230 sp_532 us_532 ic_532 20000 36 36 os_532 (c_532_0 :: K_532) c_532_65 = true := by decide +kernel
set_option maxRecDepth 1000000 in
theorem k_532_66 : ckM 230 sp_532 us_532 ic_532 20000 36 36 os_532 (c_532_0 :: K_532) c_532_66 = true := by decide +kernel
set_option maxRecDepth 1000000 in
theorem k_532_67 : ckM 230 sp_532 us_532 ic_532 20000 36 36 os_532 (c_532_0 :: K_532) c_532_67 = true := by decide +kernel
set_option maxRecDepth 1000000 in
theorem k_532_68 : ckM 230 sp_532 us_532 ic_532 20000 36 36 os_532 (c_532_0 :: K_532) c_532_68 = true := by decide +kernel
set_option maxRecDepth 1000000 in
theorem k_532_69 : ckM 230 sp_532 us_532 ic_532 20000 36 36 os_532 (c_532_0 :: K_532) c_532_69 = true := by decide +kernel
set_option maxRecDepth 1000000 in
theorem k_532_70 : ckM 230 sp_532 us_532 ic_532 20000 36 36 os_532 (c_532_0 :: K_532) c_532_70 = true := by decide +kernel
set_option maxRecDepth 1000000 in
theorem k_532_71 : ckM 230 sp_532 us_532 ic_532 20000 36 36 os_532 (c_532_0 :: K_532) c_532_71 = true := by decide +kernel
set_option maxRecDepth 1000000 in
theorem k_532_72 : ckM 230 sp_532 us_532 ic_532 20000 36 36 os_532 (c_532_0 :: K_532) c_532_72 = true := by decide +kernel
set_option maxRecDepth 1000000 in
theorem k_532_73 : ckM 230 sp_532 us_532 ic_532 20000 36 36 os_532 (c_532_0 :: K_532) c_532_73 = true := by decide +kernel
set_option maxRecDepth 1000000 in
theorem k_532_74 : ckM 230 sp_532 us_532 ic_532 20000 36 36 os_532 (c_532_0 :: K_532) c_532_74 = true := by decide +kernel
set_option maxRecDepth 1000000 in
theorem k_532_75 : ckM 230 sp_532 us_532 ic_532 20000 36 36 os_532 (c_532_0 :: K_532) c_532_75 = true := by decide +kernel
set_option maxRecDepth 1000000 in
theorem k_532_76 : ckM 230 sp_532 us_532 ic_532 20000 36 36 os_532 (c_532_0 :: K_532) c_532_76 = true := by decide +kernel
set_option maxRecDepth 1000000 in
theorem k_532_77 : ckM 230 sp_532 us_532 ic_532 20000 36 36 os_532 (c_532_0 :: K_532) c_532_77 = true := by decide +kernel
set_option maxRecDepth 1000000 in
theorem k_532_78 : ckM 230 sp_532 us_532 ic_532 20000 36 36 os_532 (c_532_0 :: K_532) c_532_78 = true := by decide +kernel
set_option maxRecDepth 1000000 in
theorem k_532_79 : ckM 230 sp_532 us_532 ic_532 20000 36 36 os_532 (c_532_0 :: K_532) c_532_79 = true := by decide +kernel
set_option maxRecDepth 1000000 in
theorem k_532_80 : ckM 230 sp_532 us_532 ic_532 20000 36 36 os_532 (c_532_0 :: K_532) c_532_80 = true := by decide +kernel
set_option maxRecDepth 1000000 in
theorem k_532_81 : ckM 230 sp_532 us_532 ic_532 20000 36 36 os_532 (c_532_0 :: K_532) c_532_81 = true := by decide +kernel
set_option maxRecDepth 1000000 in
theorem k_532_82 : ckM 230 sp_532 us_532 ic_532 20000 36 36 os_532 (c_532_0 :: K_532) c_532_82 = true := by decide +kernel
set_option maxRecDepth 1000000 in
theorem k_532_83 : ckM 230 sp_532 us_532 ic_532 20000 36 36 os_532 (c_532_0 :: K_532) c_532_83 = true := by decide +kernel
set_option maxRecDepth 1000000 in
theorem k_532_84 : ckM 230 sp_532 us_532 ic_532 20000 36 36 os_532 (c_532_0 :: K_532) c_532_84 = true := by decide +kernel
set_option maxRecDepth 1000000 in
theorem k_532_85 : ckM 230 sp_532 us_532 ic_532 20000 36 36 os_532 (c_532_0 :: K_532) c_532_85 = true := by decide +kernel
set_option maxRecDepth 1000000 in
theorem k_532_86 : ckM 230 sp_532 us_532 ic_532 20000 36 36 os_532 (c_532_0 :: K_532) c_532_86 = true := by decide +kernel
set_option maxRecDepth 1000000 in
theorem k_532_87 : ckM 230 sp_532 us_532 ic_532 20000 36 36 os_532 (c_532_0 :: K_532) c_532_87 = true := by decide +kernel
set_option maxRecDepth 1000000 in
theorem k_532_88 : ckM 230 sp_532 us_532 ic_532 20000 36 36 os_532 (c_532_0 :: K_532) c_532_88 = true := by decide +kernel
set_option maxRecDepth 1000000 in
theorem k_532_89 : ckM 230 sp_532 us_532 ic_532 20000 36 36 os_532 (c_532_0 :: K_532) c_532_89 = true := by decide +kernel
set_option maxRecDepth 1000000 in
theorem k_532_90 : ckM 230 sp_532 us_532 ic_532 20000 36 36 os_532 (c_532_0 :: K_532) c_532_90 = true := by decide +kernel
set_option maxRecDepth 1000000 in
theorem k_532_91 : ckM 230 sp_532 us_532 ic_532 20000 36 36 os_532 (c_532_0 :: K_532) c_532_91 = true := by decide +kernel
set_option maxRecDepth 1000000 in
theorem k_532_92 : ckM 230 sp_532 us_532 ic_532 20000 36 36 os_532 (c_532_0 :: K_532) c_532_92 = true := by decide +kernel
set_option maxRecDepth 1000000 in
theorem k_532_93 : ckM 230 sp_532 us_532 ic_532 20000 36 36 os_532 (c_532_0 :: K_532) c_532_93 = true := by decide +kernel
set_option maxRecDepth 1000000 in
theorem k_532_94 : ckM 230 sp_532 us_532 ic_532 20000 36 36 os_532 (c_532_0 :: K_532) c_532_94 = true := by decide +kernel
set_option maxRecDepth 1000000 in
theorem k_532_95 : ckM 230 sp_532 us_532 ic_532 20000 36 36 os_532 (c_532_0 :: K_532) c_532_95 = true := by decide +kernel
set_option maxRecDepth 1000000 in
theorem k_532_96 : ckM 230 sp_532 us_532 ic_532 20000 36 36 os_532 (c_532_0 :: K_532) c_532_96 = true := by decide +kernel
set_option maxRecDepth 1000000 in
theorem k_532_97 : ckM 230 sp_532 us_532 ic_532 20000 36 36 os_532 (c_532_0 :: K_532) c_532_97 = true := by decide +kernel
set_option maxRecDepth 1000000 in
theorem k_532_98 : ckM 230 sp_532 us_532 ic_532 20000 36 36 os_532 (c_532_0 :: K_532) c_532_98 = true := by decide +kernel
set_option maxRecDepth 1000000 in
theorem k_532_99 : ckM 230 sp_532 us_532 ic_532 20000 36 36 os_532 (c_532_0 :: K_532) c_532_99 = true := by decide +kernel
set_option maxRecDepth 1000000 in
theorem k_532_100 : ckM 230 sp_532 us_532 ic_532 20000 36 36 os_532 (c_532_0 :: K_532) c_532_100 = true := by decide +kernel
set_option maxRecDepth 1000000 in
theorem k_532_101 : ckM 230 sp_532 us_532 ic_532 20000 36 36 os_532 (c_532_0 :: K_532) c_532_101 = true := by decide +kernel
set_option maxRecDepth 1000000 in
theorem k_532_102 : ckM 230 sp_532 us_532 ic_532 20000 36 36 os_532 (c_532_0 :: K_532) c_532_102 = true := by decide +kernel
set_option maxRecDepth 1000000 in
theorem k_532_103 : ckM 230 sp_532 us_532 ic_532 20000 36 36 os_532 (c_532_0 :: K_532) c_532_103 = true := by decide +kernel
