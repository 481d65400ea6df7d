/-! ===== CONTRACTS, 31.m056 ===== -/
set_option maxRecDepth 1000000 in
theorem k_520_55 : ckM 230 sp_520 us_520 ic_520 20000 36 36 os_520 (c_520_0 :: K_520) c_520_55 = true := by decide +kernel
set_option maxRecDepth 1000000 in
theorem k_520_56 : ckM 230 sp_520 us_520 ic_520 20000 36 36 os_520 (c_520_0 :: K_520) c_520_56 = true := by decide +kernel
set_option maxRecDepth 1000000 in
theorem k_520_57 : ckM 230 sp_520 us_520 ic_520 20000 36 36 os_520 (c_520_0 :: K_520) c_520_57 = true := by decide +kernel
set_option maxRecDepth 1000000 in
theorem k_520_58 : ckM 230 sp_520 us_520 ic_520 20000 36 36 os_520 (c_520_0 :: K_520) c_520_58 = true := by decide +kernel
set_option maxRecDepth 1000000 in
theorem k_520_59 : ckM 230 sp_520 us_520 ic_520 20000 36 36 os_520 (c_520_0 :: K_520) c_520_59 = true := by decide +kernel
set_option maxRecDepth 1000000 in
theorem k_520_60 : ckM 230 sp_520 us_520 ic_520 20000 36 36 os_520 (c_520_0 :: K_520) c_520_60 = true := by decide +kernel
set_option maxRecDepth 1000000 in
theorem k_520_61 : ckM 230 sp_520 us_520 ic_520 20000 36 36 os_520 (c_520_0 :: K_520) c_520_61 = true := by decide +kernel
set_option maxRecDepth 1000000 in
theorem k_520_62 : ckM 230 sp_520 us_520 ic_520 20000 36 36 os_520 (c_520_0 :: K_520) c_520_62 = true := by decide +kernel
set_option maxRecDepth 1000000 in
theorem k_520_63 : ckM 230 sp_520 us_520 ic_520 20000 36 36 os_520 (c_520_0 :: K_520) c_520_63 = true := by decide +kernel
set_option maxRecDepth 1000000 in
theorem k_520_64 : ckM 230 sp_520 us_520 ic_520 20000 36 36 os_520 (c_520_0 :: K_520) c_520_64 = true := by decide +kernel
set_option maxRecDepth 1000000 in
theorem k_520_65 : ckM 230 sp_520 us_520 ic_520 20000 36 36 os_520 (c_520_0 :: K_520) c_520_65 = true := by decide +kernel
set_option maxRecDepth 1000000 in
theorem k_520_66 : ckM 230 sp_520 us_520 ic_520 20000 36 36 os_520 (c_520_0 :: K_520) c_520_66 = true := by decide +kernel
set_option maxRecDepth 1000000 in
theorem k_520_67 : ckM 230 sp_520 us_520 ic_520 20000 36 36 os_520 (c_520_0 :: K_520) c_520_67 = true := by decide +kernel
set_option maxRecDepth 1000000 in
theorem k_520_68 : ckM 230 sp_520 us_520 ic_520 20000 36 36 os_520 (c_520_0 :: K_520) c_520_68 = true := by decide +kernel
set_option maxRecDepth 1000000 in
theorem k_520_69 : ckM 230 sp_520 us_520 ic_520 20000 36 36 os_520 (c_520_0 :: K_520) c_520_69 = true := by decide +kernel
set_option maxRecDepth 1000000 in
theorem k_520_70 : ckM 230 sp_520 us_520 ic_520 20000 36 36 os_520 (c_520_0 :: K_520) c_520_70 = true := by decide +kernel
set_option maxRecDepth 1000000 in
theorem k_520_71 : ckM 230 sp_520 us_520 ic_520 20000 36 36 os_520 (c_520_0 :: K_520) c_520_71 = true := by decide +kernel
set_option maxRecDepth 1000000 in
theorem k_520_72 : ckM 230 sp_520 us_520 ic_520 20000 36 36 os_520 (c_520_0 :: K_520) c_520_72 = true := by decide +kernel
set_option maxRecDepth 1000000 in
theorem k_520_73 : ckM 230 sp_520 us_520 ic_520 20000 36 36 os_520 (c_520_0 :: K_520) c_520_73 = true := by decide +kernel
set_option maxRecDepth 1000000 in
theorem k_520_74 : ckM 230 sp_520 us_520 ic_520 20000 36 36 os_520 (c_520_0 :: K_520) c_520_74 = true := by decide +kernel
set_option maxRecDepth 1000000 in
theorem k_520_75 : ckM 230 sp_520 us_520 ic_520 20000 36 36 os_520 (c_520_0 :: K_520) c_520_75 = true := by decide +kernel
set_option maxRecDepth 1000000 in
theorem k_520_76 : ckM 230 sp_520 us_520 ic_520 20000 36 36 os_520 (c_520_0 :: K_520) c_520_76 = true := by decide +kernel
set_option maxRecDepth 1000000 in
theorem k_520_77 : ckM 230 sp_520 us_520 ic_520 20000 36 36 os_520 (c_520_0 :: K_520) c_520_77 = true := by decide +kernel
set_option maxRecDepth 1000000 in
theorem k_520_78 : ckM 230 sp_520 us_520 ic_520 20000 36 36 os_520 (c_520_0 :: K_520) c_520_78 = true := by decide +kernel
set_option maxRecDepth 1000000 in
theorem k_520_79 : ckM 230 sp_520 us_520 ic_520 20000 36 36 os_520 (c_520_0 :: K_520) c_520_79 = true := by decide +kernel
set_option maxRecDepth 1000000 in
theorem k_520_80 : ckM 230 sp_520 us_520 ic_520 20000 36 36 os_520 (c_520_0 :: K_520) c_520_80 = true := by decide +kernel
set_option maxRecDepth 1000000 in
theorem k_520_81 : ckM 230 sp_520 us_520 ic_520 20000 36 36 os_520 (c_520_0 :: K_520) c_520_81 = true := by decide +kernel
set_option maxRecDepth 1000000 in
theorem k_520_82 : ckM 230 sp_520 us_520 ic_520 20000 36 36 os_520 (c_520_0 :: K_520) c_520_82 = true := by decide +kernel
set_option maxRecDepth 1000000 in
theorem k_520_83 : ckM 230 sp_520 us_520 ic_520 20000 36 36 os_520 (c_520_0 :: K_520) c_520_83 = true := by decide +kernel
set_option maxRecDepth 1000000 in
theorem k_520_84 : ckM 230 sp_520 us_520 ic_520 20000 36 36 os_520 (c_520_0 :: K_520) c_520_84 = true := by decide +kernel
set_option maxRecDepth 1000000 in
theorem k_520_85 : ckM 230 sp_520 us_520 ic_520 20000 36 36 os_520 (c_520_0 :: K_520) c_520_85 = true := by decide +kernel
set_option maxRecDepth 1000000 in
theorem k_520_86 : ckM 230 sp_520 us_520 ic_520 20000 36 36 os_520 (c_520_0 :: K_520) c_520_86 = true := by decide +kernel
set_option maxRecDepth 1000000 in
theorem k_520_87 : ckM 230 sp_520 us_520 ic_520 20000 36 36 os_520 (c_520_0 :: K_520) c_520_87 = true := by decide +kernel
set_option maxRecDepth 1000000 in
theorem k_520_88 : ckM 230 sp_520 us_520 ic_520 20000 36 36 os_520 (c_520_0 :: K_520) c_520_88 = true := by decide +kernel
set_option maxRecDepth 1000000 in
theorem k_520_89 : ckM 230 sp_520 us_520 ic_520 20000 36 36 os_520 (c_520_0 :: K_520) c_520_89 = true := by decide +kernel
set_option maxRecDepth 1000000 in
theorem k_520_90 : ckM 230 sp_520 us_520 ic_520 20000 36 36 os_520 (c_520_0 :: K_520) c_520_90 = true := by decide +kernel
set_option maxRecDepth 1000000 in
theorem k_520_91 : ckM 230 sp_520 us_520 ic_520 20000 36 36 os_520 (c_520_0 :: K_520) c_520_91 = true := by decide +kernel
set_option maxRecDepth 1000000 in
theorem k_520_92 : ckM 230 sp_520 us_520 ic_520 20000 36 36 os_520 (c_520_0 :: K_520) c_520_92 = true := by decide +kernel
set_option maxRecDepth 1000000 in
theorem k_520_93 : ckM 230 sp_520 us_520 ic_520 20000 36 36 os_520 (c_520_0 :: K_520) c_520_93 = true := by decide +kernel
set_option maxRecDepth 1000000 in
theorem k_520_94 : ckM 230 sp_520 us_520 ic_520 20000 36 36 os_520 (c_520_0 :: K_520) c_520_94 = true := by decide +kernel
set_option maxRecDepth 1000000 in
theorem k_520_95 : ckM 230 sp_520 us_520 ic_520 20000 36 36 os_520 (c_520_0 :: K_520) c_520_95 = true := by decide +kernel
set_option maxRecDepth 1000000 in
theorem k_520_96 : ckM 230 sp_520 us_520 ic_520 20000 36 36 os_520 (c_520_0 :: K_520) c_520_96 = true := by decide +kernel
set_option maxRecDepth 1000000 in
theorem k_520_97 : ckM 230 sp_520 us_520 ic_520 20000 36 36 os_520 (c_520_0 :: K_520) c_520_97 = true := by decide +kernel
set_option maxRecDepth 1000000 in
theorem k_520_98 : ckM 230 sp_520 us_520 ic_520 20000 36 36 os_520 (c_520_0 :: K_520) c_520_98 = true := by decide +kernel
set_option maxRecDepth 1000000 in
theorem k_520_99 : ckM 230 sp_520 us_520 ic_520 20000 36 36 os_520 (c_520_0 :: K_520) c_520_99 = true := by decide +kernel
set_option maxRecDepth 1000000 in
theorem k_520_100 : ckM 230 sp_520 us_520 ic_520 20000 36 36 os_520 (c_520_0 :: K_520) c_520_100 = true := by decide +kernel
set_option maxRecDepth 1000000 in
theorem k_520_101 : ckM 230 sp_520 us_520 ic_520 20000 36 36 os_520 (c_520_0 :: K_520) c_520_101 = true := by decide +kernel
set_option maxRecDepth 1000000 in
theorem k_520_102 : ckM 230 sp_520 us_520 ic_520 20000 36 36 os_520 (c_520_0 :: K_520) c_520_102 = true := by decide +kernel
set_option maxRecDepth 1000000 in
theorem k_520_103 : ckM 230 sp_520 us_520 ic_520 20000 36 36 os_520 (c_520_0 :: K_520) c_520_103 = true := by decide +kernel
