/-! ===== CONTRACTS, 31.m033 ===== -/
set_option maxRecDepth 1000000 in
theorem k_397_51 : ckM 230 sp_397 us_397 ic_397 20000 38 36 os_397 (c_397_0 :: K_397) c_397_51 = true := by decide +kernel
set_option maxRecDepth 1000000 in
theorem k_397_52 : ckM 230 sp_397 us_397 ic_397 20000 38 36 os_397 (c_397_0 :: K_397) c_397_52 = true := by decide +kernel
set_option maxRecDepth 1000000 in
theorem k_397_53 : ckM 230 sp_397 us_397 ic_397 20000 38 36 os_397 (c_397_0 :: K_397) c_397_53 = true := by decide +kernel
set_option maxRecDepth 1000000 in
theorem k_397_54 : ckM 230 sp_397 us_397 ic_397 20000 38 36 os_397 (c_397_0 :: K_397) c_397_54 = true := by decide +kernel
set_option maxRecDepth 1000000 in
theorem k_397_55 : ckM 230 sp_397 us_397 ic_397 20000 38 36 os_397 (c_397_0 :: K_397) c_397_55 = true := by decide +kernel
set_option maxRecDepth 1000000 in
theorem k_397_56 : ckM 230 sp_397 us_397 ic_397 20000 38 36 os_397 (c_397_0 :: K_397) c_397_56 = true := by decide +kernel
set_option maxRecDepth 1000000 in
theorem k_397_57 : ckM 230 sp_397 us_397 ic_397 20000 38 36 os_397 (c_397_0 :: K_397) c_397_57 = true := by decide +kernel
set_option maxRecDepth 1000000 in
theorem k_397_58 : ckM 230 sp_397 us_397 ic_397 20000 38 36 os_397 (c_397_0 :: K_397) c_397_58 = true := by decide +kernel
set_option maxRecDepth 1000000 in
theorem k_397_59 : ckM 230 sp_397 us_397 ic_397 20000 38 36 os_397 (c_397_0 :: K_397) c_397_59 = true := by decide +kernel
set_option maxRecDepth 1000000 in
theorem k_397_60 : ckM 230 sp_397 us_397 ic_397 20000 38 36 os_397 (c_397_0 :: K_397) c_397_60 = true := by decide +kernel
set_option maxRecDepth 1000000 in
theorem k_397_61 : ckM 230 sp_397 us_397 ic_397 20000 38 36 os_397 (c_397_0 :: K_397) c_397_61 = true := by decide +kernel
set_option maxRecDepth 1000000 in
theorem k_397_62 : ckM 230 sp_397 us_397 ic_397 20000 38 36 os_397 (c_397_0 :: K_397) c_397_62 = true := by decide +kernel
set_option maxRecDepth 1000000 in
theorem k_397_63 : ckM 230 sp_397 us_397 ic_397 20000 38 36 os_397 (c_397_0 :: K_397) c_397_63 = true := by decide +kernel
set_option maxRecDepth 1000000 in
theorem k_397_64 : ckM 230 sp_397 us_397 ic_397 20000 38 36 os_397 (c_397_0 :: K_397) c_397_64 = true := by decide +kernel
set_option maxRecDepth 1000000 in
theorem k_397_65 : ckM 230 sp_397 us_397 ic_397 20000 38 36 os_397 (c_397_0 :: K_397) c_397_65 = true := by decide +kernel
set_option maxRecDepth 1000000 in
theorem k_397_66 : ckM 230 sp_397 us_397 ic_397 20000 38 36 os_397 (c_397_0 :: K_397) c_397_66 = true := by decide +kernel
set_option maxRecDepth 1000000 in
theorem k_397_67 : ckM 230 sp_397 us_397 ic_397 20000 38 36 os_397 (c_397_0 :: K_397) c_397_67 = true := by decide +kernel
set_option maxRecDepth 1000000 in
theorem k_397_68 : ckM 230 sp_397 us_397 ic_397 20000 38 36 os_397 (c_397_0 :: K_397) c_397_68 = true := by decide +kernel
set_option maxRecDepth 1000000 in
theorem k_397_69 : ckM 230 sp_397 us_397 ic_397 20000 38 36 os_397 (c_397_0 :: K_397) c_397_69 = true := by decide +kernel
set_option maxRecDepth 1000000 in
theorem k_397_70 : ckM 230 sp_397 us_397 ic_397 20000 38 36 os_397 (c_397_0 :: K_397) c_397_70 = true := by decide +kernel
set_option maxRecDepth 1000000 in
theorem k_397_71 : ckM 230 sp_397 us_397 ic_397 20000 38 36 os_397 (c_397_0 :: K_397) c_397_71 = true := by decide +kernel
set_option maxRecDepth 1000000 in
theorem k_397_72 : ckM 230 sp_397 us_397 ic_397 20000 38 36 os_397 (c_397_0 :: K_397) c_397_72 = true := by decide +kernel
set_option maxRecDepth 1000000 in
theorem k_397_73 : ckM 230 sp_397 us_397 ic_397 20000 38 36 os_397 (c_397_0 :: K_397) c_397_73 = true := by decide +kernel
set_option maxRecDepth 1000000 in
theorem k_397_74 : ckM 230 sp_397 us_397 ic_397 20000 38 36 os_397 (c_397_0 :: K_397) c_397_74 = true := by decide +kernel
set_option maxRecDepth 1000000 in
theorem k_397_75 : ckM 230 sp_397 us_397 ic_397 20000 38 36 os_397 (c_397_0 :: K_397) c_397_75 = true := by decide +kernel
set_option maxRecDepth 1000000 in
theorem k_397_76 : ckM 230 sp_397 us_397 ic_397 20000 38 36 os_397 (c_397_0 :: K_397) c_397_76 = true := by decide +kernel
set_option maxRecDepth 1000000 in
theorem k_397_77 : ckM 230 sp_397 us_397 ic_397 20000 38 36 os_397 (c_397_0 :: K_397) c_397_77 = true := by decide +kernel
set_option maxRecDepth 1000000 in
theorem k_397_78 : ckM 230 sp_397 us_397 ic_397 20000 38 36 os_397 (c_397_0 :: K_397) c_397_78 = true := by decide +kernel
set_option maxRecDepth 1000000 in
theorem k_397_79 : ckM 230 sp_397 us_397 ic_397 20000 38 36 os_397 (c_397_0 :: K_397) c_397_79 = true := by decide +kernel
set_option maxRecDepth 1000000 in
theorem k_397_80 : ckM 230 sp_397 us_397 ic_397 20000 38 36 os_397 (c_397_0 :: K_397) c_397_80 = true := by decide +kernel
set_option maxRecDepth 1000000 in
theorem k_397_81 : ckM 230 sp_397 us_397 ic_397 20000 38 36 os_397 (c_397_0 :: K_397) c_397_81 = true := by decide +kernel
set_option maxRecDepth 1000000 in
theorem k_397_82 : ckM 230 sp_397 us_397 ic_397 20000 38 36 os_397 (c_397_0 :: K_397) c_397_82 = true := by decide +kernel
set_option maxRecDepth 1000000 in
theorem k_397_83 : ckM 230 sp_397 us_397 ic_397 20000 38 36 os_397 (c_397_0 :: K_397) c_397_83 = true := by decide +kernel
set_option maxRecDepth 1000000 in
theorem k_397_84 : ckM 230 sp_397 us_397 ic_397 20000 38 36 os_397 (c_397_0 :: K_397) c_397_84 = true := by decide +kernel
set_option maxRecDepth 1000000 in
theorem k_397_85 : ckM 230 sp_397 us_397 ic_397 20000 38 36 os_397 (c_397_0 :: K_397) c_397_85 = true := by decide +kernel
set_option maxRecDepth 1000000 in
theorem k_397_86 : ckM 230 sp_397 us_397 ic_397 20000 38 36 os_397 (c_397_0 :: K_397) c_397_86 = true := by decide +kernel
set_option maxRecDepth 1000000 in
theorem k_397_87 : ckM 230 sp_397 us_397 ic_397 20000 38 36 os_397 (c_397_0 :: K_397) c_397_87 = true := by decide +kernel
set_option maxRecDepth 1000000 in
theorem k_397_88 : ckM 230 sp_397 us_397 ic_397 20000 38 36 os_397 (c_397_0 :: K_397) c_397_88 = true := by decide +kernel
set_option maxRecDepth 1000000 in
theorem k_397_89 : ckM 230 sp_397 us_397 ic_397 20000 38 36 os_397 (c_397_0 :: K_397) c_397_89 = true := by decide +kernel
set_option maxRecDepth 1000000 in
theorem k_397_90 : ckM 230 sp_397 us_397 ic_397 20000 38 36 os_397 (c_397_0 :: K_397) c_397_90 = true := by decide +kernel
set_option maxRecDepth 1000000 in
theorem k_397_91 : ckM 230 sp_397 us_397 ic_397 20000 38 36 os_397 (c_397_0 :: K_397) c_397_91 = true := by decide +kernel
set_option maxRecDepth 1000000 in
theorem k_397_92 : ckM 230 sp_397 us_397 ic_397 20000 38 36 os_397 (c_397_0 :: K_397) c_397_92 = true := by decide +kernel
set_option maxRecDepth 1000000 in
theorem k_397_93 : ckM 230 sp_397 us_397 ic_397 20000 38 36 os_397 (c_397_0 :: K_397) c_397_93 = true := by decide +kernel
set_option maxRecDepth 1000000 in
theorem k_397_94 : ckM 230 sp_397 us_397 ic_397 20000 38 36 os_397 (c_397_0 :: K_397) c_397_94 = true := by decide +kernel
set_option maxRecDepth 1000000 in
theorem k_397_95 : ckM 230 sp_397 us_397 ic_397 20000 38 36 os_397 (c_397_0 :: K_397) c_397_95 = true := by decide +kernel
set_option maxRecDepth 1000000 in
theorem k_397_96 : ckM 230 sp_397 us_397 ic_397 20000 38 36 os_397 (c_397_0 :: K_397) c_397_96 = true := by decide +kernel
set_option maxRecDepth 1000000 in
theorem k_397_97 : ckM 230 sp_397 us_397 ic_397 20000 38 36 os_397 (c_397_0 :: K_397) c_397_97 = true := by decide +kernel
set_option maxRecDepth 1000000 in
theorem k_397_98 : ckM 230 sp_397 us_397 ic_397 20000 38 36 os_397 (c_397_0 :: K_397) c_397_98 = true := by decide +kernel
set_option maxRecDepth 1000000 in
theorem k_397_99 : ckM 230 sp_397 us_397 ic_397 20000 38 36 os_397 (c_397_0 :: K_397) c_397_99 = true := by decide +kernel
