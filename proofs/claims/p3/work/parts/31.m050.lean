/-! ===== CONTRACTS, 31.m050 ===== -/
set_option maxRecDepth 1000000 in
theorem k_508_55 : ckM 230 sp_508 us_508 ic_508 20000 36 36 os_508 (c_508_0 :: K_508) c_508_55 = true := by decide +kernel
set_option maxRecDepth 1000000 in
theorem k_508_56 : ckM 230 sp_508 us_508 ic_508 20000 36 36 os_508 (c_508_0 :: K_508) c_508_56 = true := by decide +kernel
set_option maxRecDepth 1000000 in
theorem k_508_57 : ckM 230 sp_508 us_508 ic_508 20000 36 36 os_508 (c_508_0 :: K_508) c_508_57 = true := by decide +kernel
set_option maxRecDepth 1000000 in
theorem k_508_58 : ckM 230 sp_508 us_508 ic_508 20000 36 36 os_508 (c_508_0 :: K_508) c_508_58 = true := by decide +kernel
set_option maxRecDepth 1000000 in
theorem k_508_59 : ckM 230 sp_508 us_508 ic_508 20000 36 36 os_508 (c_508_0 :: K_508) c_508_59 = true := by decide +kernel
set_option maxRecDepth 1000000 in
theorem k_508_60 : ckM 230 sp_508 us_508 ic_508 20000 36 36 os_508 (c_508_0 :: K_508) c_508_60 = true := by decide +kernel
set_option maxRecDepth 1000000 in
theorem k_508_61 : ckM 230 sp_508 us_508 ic_508 20000 36 36 os_508 (c_508_0 :: K_508) c_508_61 = true := by decide +kernel
set_option maxRecDepth 1000000 in
theorem k_508_62 : ckM 230 sp_508 us_508 ic_508 20000 36 36 os_508 (c_508_0 :: K_508) c_508_62 = true := by decide +kernel
set_option maxRecDepth 1000000 in
theorem k_508_63 : ckM 230 sp_508 us_508 ic_508 20000 36 36 os_508 (c_508_0 :: K_508) c_508_63 = true := by decide +kernel
set_option maxRecDepth 1000000 in
theorem k_508_64 : ckM 230 sp_508 us_508 ic_508 20000 36 36 os_508 (c_508_0 :: K_508) c_508_64 = true := by decide +kernel
set_option maxRecDepth 1000000 in
theorem k_508_65 : ckM 230 sp_508 us_508 ic_508 20000 36 36 os_508 (c_508_0 :: K_508) c_508_65 = true := by decide +kernel
set_option maxRecDepth 1000000 in
theorem k_508_66 : ckM 230 sp_508 us_508 ic_508 20000 36 36 os_508 (c_508_0 :: K_508) c_508_66 = true := by decide +kernel
set_option maxRecDepth 1000000 in
theorem k_508_67 : ckM 230 sp_508 us_508 ic_508 20000 36 36 os_508 (c_508_0 :: K_508) c_508_67 = true := by decide +kernel
set_option maxRecDepth 1000000 in
theorem k_508_68 : ckM 230 sp_508 us_508 ic_508 20000 36 36 os_508 (c_508_0 :: K_508) c_508_68 = true := by decide +kernel
set_option maxRecDepth 1000000 in
theorem k_508_69 : ckM 230 sp_508 us_508 ic_508 20000 36 36 os_508 (c_508_0 :: K_508) c_508_69 = true := by decide +kernel
set_option maxRecDepth 1000000 in
theorem k_508_70 : ckM 230 sp_508 us_508 ic_508 20000 36 36 os_508 (c_508_0 :: K_508) c_508_70 = true := by decide +kernel
set_option maxRecDepth 1000000 in
theorem k_508_71 : ckM 230 sp_508 us_508 ic_508 20000 36 36 os_508 (c_508_0 :: K_508) c_508_71 = true := by decide +kernel
set_option maxRecDepth 1000000 in
theorem k_508_72 : ckM 230 sp_508 us_508 ic_508 20000 36 36 os_508 (c_508_0 :: K_508) c_508_72 = true := by decide +kernel
set_option maxRecDepth 1000000 in
theorem k_508_73 : ckM 230 sp_508 us_508 ic_508 20000 36 36 os_508 (c_508_0 :: K_508) c_508_73 = true := by decide +kernel
set_option maxRecDepth 1000000 in
theorem k_508_74 : ckM 230 sp_508 us_508 ic_508 20000 36 36 os_508 (c_508_0 :: K_508) c_508_74 = true := by decide +kernel
set_option maxRecDepth 1000000 in
theorem k_508_75 : ckM 230 sp_508 us_508 ic_508 20000 36 36 os_508 (c_508_0 :: K_508) c_508_75 = true := by decide +kernel
set_option maxRecDepth 1000000 in
theorem k_508_76 : ckM 230 sp_508 us_508 ic_508 20000 36 36 os_508 (c_508_0 :: K_508) c_508_76 = true := by decide +kernel
set_option maxRecDepth 1000000 in
theorem k_508_77 : ckM 230 sp_508 us_508 ic_508 20000 36 36 os_508 (c_508_0 :: K_508) c_508_77 = true := by decide +kernel
set_option maxRecDepth 1000000 in
theorem k_508_78 : ckM 230 sp_508 us_508 ic_508 20000 36 36 os_508 (c_508_0 :: K_508) c_508_78 = true := by decide +kernel
set_option maxRecDepth 1000000 in
theorem k_508_79 : ckM 230 sp_508 us_508 ic_508 20000 36 36 os_508 (c_508_0 :: K_508) c_508_79 = true := by decide +kernel
set_option maxRecDepth 1000000 in
theorem k_508_80 : ckM 230 sp_508 us_508 ic_508 20000 36 36 os_508 (c_508_0 :: K_508) c_508_80 = true := by decide +kernel
set_option maxRecDepth 1000000 in
theorem k_508_81 : ckM 230 sp_508 us_508 ic_508 20000 36 36 os_508 (c_508_0 :: K_508) c_508_81 = true := by decide +kernel
set_option maxRecDepth 1000000 in
theorem k_508_82 : ckM 230 sp_508 us_508 ic_508 20000 36 36 os_508 (c_508_0 :: K_508) c_508_82 = true := by decide +kernel
set_option maxRecDepth 1000000 in
theorem k_508_83 : ckM 230 sp_508 us_508 ic_508 20000 36 36 os_508 (c_508_0 :: K_508) c_508_83 = true := by decide +kernel
set_option maxRecDepth 1000000 in
theorem k_508_84 : ckM 230 sp_508 us_508 ic_508 20000 36 36 os_508 (c_508_0 :: K_508) c_508_84 = true := by decide +kernel
set_option maxRecDepth 1000000 in
theorem k_508_85 : ckM 230 sp_508 us_508 ic_508 20000 36 36 os_508 (c_508_0 :: K_508) c_508_85 = true := by decide +kernel
set_option maxRecDepth 1000000 in
theorem k_508_86 : ckM 230 sp_508 us_508 ic_508 20000 36 36 os_508 (c_508_0 :: K_508) c_508_86 = true := by decide +kernel
set_option maxRecDepth 1000000 in
theorem k_508_87 : ckM 230 sp_508 us_508 ic_508 20000 36 36 os_508 (c_508_0 :: K_508) c_508_87 = true := by decide +kernel
set_option maxRecDepth 1000000 in
theorem k_508_88 : ckM 230 sp_508 us_508 ic_508 20000 36 36 os_508 (c_508_0 :: K_508) c_508_88 = true := by decide +kernel
set_option maxRecDepth 1000000 in
theorem k_508_89 : ckM 230 sp_508 us_508 ic_508 20000 36 36 os_508 (c_508_0 :: K_508) c_508_89 = true := by decide +kernel
set_option maxRecDepth 1000000 in
theorem k_508_90 : ckM 230 sp_508 us_508 ic_508 20000 36 36 os_508 (c_508_0 :: K_508) c_508_90 = true := by decide +kernel
set_option maxRecDepth 1000000 in
theorem k_508_91 : ckM 230 sp_508 us_508 ic_508 20000 36 36 os_508 (c_508_0 :: K_508) c_508_91 = true := by decide +kernel
set_option maxRecDepth 1000000 in
theorem k_508_92 : ckM 230 sp_508 us_508 ic_508 20000 36 36 os_508 (c_508_0 :: K_508) c_508_92 = true := by decide +kernel
set_option maxRecDepth 1000000 in
theorem k_508_93 : ckM 230 sp_508 us_508 ic_508 20000 36 36 os_508 (c_508_0 :: K_508) c_508_93 = true := by decide +kernel
set_option maxRecDepth 1000000 in
theorem k_508_94 : ckM 230 sp_508 us_508 ic_508 20000 36 36 os_508 (c_508_0 :: K_508) c_508_94 = true := by decide +kernel
set_option maxRecDepth 1000000 in
theorem k_508_95 : ckM 230 sp_508 us_508 ic_508 20000 36 36 os_508 (c_508_0 :: K_508) c_508_95 = true := by decide +kernel
set_option maxRecDepth 1000000 in
theorem k_508_96 : ckM 230 sp_508 us_508 ic_508 20000 36 36 os_508 (c_508_0 :: K_508) c_508_96 = true := by decide +kernel
set_option maxRecDepth 1000000 in
theorem k_508_97 : ckM 230 sp_508 us_508 ic_508 20000 36 36 os_508 (c_508_0 :: K_508) c_508_97 = true := by decide +kernel
set_option maxRecDepth 1000000 in
theorem k_508_98 : ckM 230 sp_508 us_508 ic_508 20000 36 36 os_508 (c_508_0 :: K_508) c_508_98 = true := by decide +kernel
set_option maxRecDepth 1000000 in
theorem k_508_99 : ckM 230 sp_508 us_508 ic_508 20000 36 36 os_508 (c_508_0 :: K_508) c_508_99 = true := by decide +kernel
set_option maxRecDepth 1000000 in
theorem k_508_100 : ckM 230 sp_508 us_508 ic_508 20000 36 36 os_508 (c_508_0 :: K_508) c_508_100 = true := by decide +kernel
set_option maxRecDepth 1000000 in
theorem k_508_101 : ckM 230 sp_508 us_508 ic_508 20000 36 36 os_508 (c_508_0 :: K_508) c_508_101 = true := by decide +kernel
set_option maxRecDepth 1000000 in
theorem k_508_102 : ckM 230 sp_508 us_508 ic_508 20000 36 36 os_508 (c_508_0 :: K_508) c_508_102 = true := by decide +kernel
set_option maxRecDepth 1000000 in
theorem k_508_103 : ckM 230 sp_508 us_508 ic_508 20000 36 36 os_508 (c_508_0 :: K_508) c_508_103 = true := by decide +kernel
