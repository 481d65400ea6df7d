/-! ===== CONTRACTS, 31.m038 ===== -/
set_option maxRecDepth 1000000 in
theorem k_484_55 : ckM 230 sp_484 us_484 ic_484 20000 36 36 os_484 (c_484_0 :: K_484) c_484_55 = true := by decide +kernel
set_option maxRecDepth 1000000 in
theorem k_484_56 : ckM 230 sp_484 us_484 ic_484 20000 36 36 os_484 (c_484_0 :: K_484) c_484_56 = true := by decide +kernel
set_option maxRecDepth 1000000 in
theorem k_484_57 : ckM 230 sp_484 us_484 ic_484 20000 36 36 os_484 (c_484_0 :: K_484) c_484_57 = true := by decide +kernel
set_option maxRecDepth 1000000 in
theorem k_484_58 : ckM 230 sp_484 us_484 ic_484 20000 36 36 os_484 (c_484_0 :: K_484) c_484_58 = true := by decide +kernel
set_option maxRecDepth 1000000 in
theorem k_484_59 : ckM 230 sp_484 us_484 ic_484 20000 36 36 os_484 (c_484_0 :: K_484) c_484_59 = true := by decide +kernel
set_option maxRecDepth 1000000 in
theorem k_484_60 : ckM 230 sp_484 us_484 ic_484 20000 36 36 os_484 (c_484_0 :: K_484) c_484_60 = true := by decide +kernel
set_option maxRecDepth 1000000 in
theorem k_484_61 : ckM 230 sp_484 us_484 ic_484 20000 36 36 os_484 (c_484_0 :: K_484) c_484_61 = true := by decide +kernel
set_option maxRecDepth 1000000 in
theorem k_484_62 : ckM 230 sp_484 us_484 ic_484 20000 36 36 os_484 (c_484_0 :: K_484) c_484_62 = true := by decide +kernel
set_option maxRecDepth 1000000 in
theorem k_484_63 : ckM 230 sp_484 us_484 ic_484 20000 36 36 os_484 (c_484_0 :: K_484) c_484_63 = true := by decide +kernel
set_option maxRecDepth 1000000 in
theorem k_484_64 : ckM 230 sp_484 us_484 ic_484 20000 36 36 os_484 (c_484_0 :: K_484) c_484_64 = true := by decide +kernel
set_option maxRecDepth 1000000 in
theorem k_484_65 : ckM 230 sp_484 us_484 ic_484 20000 36 36 os_484 (c_484_0 :: K_484) c_484_65 = true := by decide +kernel
set_option maxRecDepth 1000000 in
theorem k_484_66 : ckM 230 sp_484 us_484 ic_484 20000 36 36 os_484 (c_484_0 :: K_484) c_484_66 = true := by decide +kernel
set_option maxRecDepth 1000000 in
theorem k_484_67 : ckM 230 sp_484 us_484 ic_484 20000 36 36 os_484 (c_484_0 :: K_484) c_484_67 = true := by decide +kernel
set_option maxRecDepth 1000000 in
theorem k_484_68 : ckM 230 sp_484 us_484 ic_484 20000 36 36 os_484 (c_484_0 :: K_484) c_484_68 = true := by decide +kernel
set_option maxRecDepth 1000000 in
theorem k_484_69 : ckM 230 sp_484 us_484 ic_484 20000 36 36 os_484 (c_484_0 :: K_484) c_484_69 = true := by decide +kernel
set_option maxRecDepth 1000000 in
theorem k_484_70 : ckM 230 sp_484 us_484 ic_484 20000 36 36 os_484 (c_484_0 :: K_484) c_484_70 = true := by decide +kernel
set_option maxRecDepth 1000000 in
theorem k_484_71 : ckM 230 sp_484 us_484 ic_484 20000 36 36 os_484 (c_484_0 :: K_484) c_484_71 = true := by decide +kernel
set_option maxRecDepth 1000000 in
theorem k_484_72 : ckM 230 sp_484 us_484 ic_484 20000 36 36 os_484 (c_484_0 :: K_484) c_484_72 = true := by decide +kernel
set_option maxRecDepth 1000000 in
theorem k_484_73 : ckM 230 sp_484 us_484 ic_484 20000 36 36 os_484 (c_484_0 :: K_484) c_484_73 = true := by decide +kernel
set_option maxRecDepth 1000000 in
theorem k_484_74 : ckM 230 sp_484 us_484 ic_484 20000 36 36 os_484 (c_484_0 :: K_484) c_484_74 = true := by decide +kernel
set_option maxRecDepth 1000000 in
theorem k_484_75 : ckM 230 sp_484 us_484 ic_484 20000 36 36 os_484 (c_484_0 :: K_484) c_484_75 = true := by decide +kernel
set_option maxRecDepth 1000000 in
theorem k_484_76 : ckM 230 sp_484 us_484 ic_484 20000 36 36 os_484 (c_484_0 :: K_484) c_484_76 = true := by decide +kernel
set_option maxRecDepth 1000000 in
theorem k_484_77 : ckM 230 sp_484 us_484 ic_484 20000 36 36 os_484 (c_484_0 :: K_484) c_484_77 = true := by decide +kernel
set_option maxRecDepth 1000000 in
theorem k_484_78 : ckM 230 sp_484 us_484 ic_484 20000 36 36 os_484 (c_484_0 :: K_484) c_484_78 = true := by decide +kernel
set_option maxRecDepth 1000000 in
theorem k_484_79 : ckM 230 sp_484 us_484 ic_484 20000 36 36 os_484 (c_484_0 :: K_484) c_484_79 = true := by decide +kernel
set_option maxRecDepth 1000000 in
theorem k_484_80 : ckM 230 sp_484 us_484 ic_484 20000 36 36 os_484 (c_484_0 :: K_484) c_484_80 = true := by decide +kernel
set_option maxRecDepth 1000000 in
theorem k_484_81 : ckM 230 sp_484 us_484 ic_484 20000 36 36 os_484 (c_484_0 :: K_484) c_484_81 = true := by decide +kernel
set_option maxRecDepth 1000000 in
theorem k_484_82 : ckM 230 sp_484 us_484 ic_484 20000 36 36 os_484 (c_484_0 :: K_484) c_484_82 = true := by decide +kernel
set_option maxRecDepth 1000000 in
theorem k_484_83 : ckM 230 sp_484 us_484 ic_484 20000 36 36 os_484 (c_484_0 :: K_484) c_484_83 = true := by decide +kernel
set_option maxRecDepth 1000000 in
theorem k_484_84 : ckM 230 sp_484 us_484 ic_484 20000 36 36 os_484 (c_484_0 :: K_484) c_484_84 = true := by decide +kernel
set_option maxRecDepth 1000000 in
theorem k_484_85 : ckM 230 sp_484 us_484 ic_484 20000 36 36 os_484 (c_484_0 :: K_484) c_484_85 = true := by decide +kernel
set_option maxRecDepth 1000000 in
theorem k_484_86 : ckM 230 sp_484 us_484 ic_484 20000 36 36 os_484 (c_484_0 :: K_484) c_484_86 = true := by decide +kernel
set_option maxRecDepth 1000000 in
theorem k_484_87 : ckM 230 sp_484 us_484 ic_484 20000 36 36 os_484 (c_484_0 :: K_484) c_484_87 = true := by decide +kernel
set_option maxRecDepth 1000000 in
theorem k_484_88 : ckM 230 sp_484 us_484 ic_484 20000 36 36 os_484 (c_484_0 :: K_484) c_484_88 = true := by decide +kernel
set_option maxRecDepth 1000000 in
theorem k_484_89 : ckM 230 sp_484 us_484 ic_484 20000 36 36 os_484 (c_484_0 :: K_484) c_484_89 = true := by decide +kernel
set_option maxRecDepth 1000000 in
theorem k_484_90 : ckM 230 sp_484 us_484 ic_484 20000 36 36 os_484 (c_484_0 :: K_484) c_484_90 = true := by decide +kernel
set_option maxRecDepth 1000000 in
theorem k_484_91 : ckM 230 sp_484 us_484 ic_484 20000 36 36 os_484 (c_484_0 :: K_484) c_484_91 = true := by decide +kernel
set_option maxRecDepth 1000000 in
theorem k_484_92 : ckM 230 sp_484 us_484 ic_484 20000 36 36 os_484 (c_484_0 :: K_484) c_484_92 = true := by decide +kernel
set_option maxRecDepth 1000000 in
theorem k_484_93 : ckM 230 sp_484 us_484 ic_484 20000 36 36 os_484 (c_484_0 :: K_484) c_484_93 = true := by decide +kernel
set_option maxRecDepth 1000000 in
theorem k_484_94 : ckM 230 sp_484 us_484 ic_484 20000 36 36 os_484 (c_484_0 :: K_484) c_484_94 = true := by decide +kernel
set_option maxRecDepth 1000000 in
theorem k_484_95 : ckM 230 sp_484 us_484 ic_484 20000 36 36 os_484 (c_484_0 :: K_484) c_484_95 = true := by decide +kernel
set_option maxRecDepth 1000000 in
theorem k_484_96 : ckM 230 sp_484 us_484 ic_484 20000 36 36 os_484 (c_484_0 :: K_484) c_484_96 = true := by decide +kernel
set_option maxRecDepth 1000000 in
theorem k_484_97 : ckM 230 sp_484 us_484 ic_484 20000 36 36 os_484 (c_484_0 :: K_484) c_484_97 = true := by decide +kernel
set_option maxRecDepth 1000000 in
theorem k_484_98 : ckM 230 sp_484 us_484 ic_484 20000 36 36 os_484 (c_484_0 :: K_484) c_484_98 = true := by decide +kernel
set_option maxRecDepth 1000000 in
theorem k_484_99 : ckM 230 sp_484 us_484 ic_484 20000 36 36 os_484 (c_484_0 :: K_484) c_484_99 = true := by decide +kernel
set_option maxRecDepth 1000000 in
theorem k_484_100 : ckM 230 sp_484 us_484 ic_484 20000 36 36 os_484 (c_484_0 :: K_484) c_484_100 = true := by decide +kernel
set_option maxRecDepth 1000000 in
theorem k_484_101 : ckM 230 sp_484 us_484 ic_484 20000 36 36 os_484 (c_484_0 :: K_484) c_484_101 = true := by decide +kernel
set_option maxRecDepth 1000000 in
theorem k_484_102 : ckM 230 sp_484 us_484 ic_484 20000 36 36 os_484 (c_484_0 :: K_484) c_484_102 = true := by decide +kernel
set_option maxRecDepth 1000000 in
theorem k_484_103 : ckM 230 sp_484 us_484 ic_484 20000 36 36 os_484 (c_484_0 :: K_484) c_484_103 = true := by decide +kernel
