/-! ===== CONTRACTS, 31.m044 ===== -/
set_option maxRecDepth 1000000 in
theorem k_496_55 : ckM 230 sp_496 us_496 ic_496 20000 36 36 os_496 (c_496_0 :: K_496) c_496_55 = true := by decide +kernel
set_option maxRecDepth 1000000 in
theorem k_496_56 : ckM 230 sp_496 us_496 ic_496 20000 36 36 os_496 (c_496_0 :: K_496) c_496_56 = true := by decide +kernel
set_option maxRecDepth 1000000 in
theorem k_496_57 : ckM 230 sp_496 us_496 ic_496 20000 36 36 os_496 (c_496_0 :: K_496) c_496_57 = true := by decide +kernel
set_option maxRecDepth 1000000 in
theorem k_496_58 : ckM 230 sp_496 us_496 ic_496 20000 36 36 os_496 (c_496_0 :: K_496) c_496_58 = true := by decide +kernel
set_option maxRecDepth 1000000 in
theorem k_496_59 : ckM 230 sp_496 us_496 ic_496 20000 36 36 os_496 (c_496_0 :: K_496) c_496_59 = true := by decide +kernel
set_option maxRecDepth 1000000 in
theorem k_496_60 : ckM 230 sp_496 us_496 ic_496 20000 36 36 os_496 (c_496_0 :: K_496) c_496_60 = true := by decide +kernel
set_option maxRecDepth 1000000 in
theorem k_496_61 : ckM 230 sp_496 us_496 ic_496 20000 36 36 os_496 (c_496_0 :: K_496) c_496_61 = true := by decide +kernel
set_option maxRecDepth 1000000 in
theorem k_496_62 : ckM 230 sp_496 us_496 ic_496 20000 36 36 os_496 (c_496_0 :: K_496) c_496_62 = true := by decide +kernel
set_option maxRecDepth 1000000 in
theorem k_496_63 : ckM 230 sp_496 us_496 ic_496 20000 36 36 os_496 (c_496_0 :: K_496) c_496_63 = true := by decide +kernel
set_option maxRecDepth 1000000 in
theorem k_496_64 : ckM 230 sp_496 us_496 ic_496 20000 36 36 os_496 (c_496_0 :: K_496) c_496_64 = true := by decide +kernel
set_option maxRecDepth 1000000 in
theorem k_496_65 : ckM 230 sp_496 us_496 ic_496 20000 36 36 os_496 (c_496_0 :: K_496) c_496_65 = true := by decide +kernel
set_option maxRecDepth 1000000 in
theorem k_496_66 : ckM 230 sp_496 us_496 ic_496 20000 36 36 os_496 (c_496_0 :: K_496) c_496_66 = true := by decide +kernel
set_option maxRecDepth 1000000 in
theorem k_496_67 : ckM 230 sp_496 us_496 ic_496 20000 36 36 os_496 (c_496_0 :: K_496) c_496_67 = true := by decide +kernel
set_option maxRecDepth 1000000 in
theorem k_496_68 : ckM 230 sp_496 us_496 ic_496 20000 36 36 os_496 (c_496_0 :: K_496) c_496_68 = true := by decide +kernel
set_option maxRecDepth 1000000 in
theorem k_496_69 : ckM 230 sp_496 us_496 ic_496 20000 36 36 os_496 (c_496_0 :: K_496) c_496_69 = true := by decide +kernel
set_option maxRecDepth 1000000 in
theorem k_496_70 : ckM 230 sp_496 us_496 ic_496 20000 36 36 os_496 (c_496_0 :: K_496) c_496_70 = true := by decide +kernel
set_option maxRecDepth 1000000 in
theorem k_496_71 : ckM 230 sp_496 us_496 ic_496 20000 36 36 os_496 (c_496_0 :: K_496) c_496_71 = true := by decide +kernel
set_option maxRecDepth 1000000 in
theorem k_496_72 : ckM 230 sp_496 us_496 ic_496 20000 36 36 os_496 (c_496_0 :: K_496) c_496_72 = true := by decide +kernel
set_option maxRecDepth 1000000 in
theorem k_496_73 : ckM 230 sp_496 us_496 ic_496 20000 36 36 os_496 (c_496_0 :: K_496) c_496_73 = true := by decide +kernel
set_option maxRecDepth 1000000 in
theorem k_496_74 : ckM 230 sp_496 us_496 ic_496 20000 36 36 os_496 (c_496_0 :: K_496) c_496_74 = true := by decide +kernel
set_option maxRecDepth 1000000 in
theorem k_496_75 : ckM 230 sp_496 us_496 ic_496 20000 36 36 os_496 (c_496_0 :: K_496) c_496_75 = true := by decide +kernel
set_option maxRecDepth 1000000 in
theorem k_496_76 : ckM 230 sp_496 us_496 ic_496 20000 36 36 os_496 (c_496_0 :: K_496) c_496_76 = true := by decide +kernel
set_option maxRecDepth 1000000 in
theorem k_496_77 : ckM 230 sp_496 us_496 ic_496 20000 36 36 os_496 (c_496_0 :: K_496) c_496_77 = true := by decide +kernel
set_option maxRecDepth 1000000 in
theorem k_496_78 : ckM 230 sp_496 us_496 ic_496 20000 36 36 os_496 (c_496_0 :: K_496) c_496_78 = true := by decide +kernel
set_option maxRecDepth 1000000 in
theorem k_496_79 : ckM 230 sp_496 us_496 ic_496 20000 36 36 os_496 (c_496_0 :: K_496) c_496_79 = true := by decide +kernel
set_option maxRecDepth 1000000 in
theorem k_496_80 : ckM 230 sp_496 us_496 ic_496 20000 36 36 os_496 (c_496_0 :: K_496) c_496_80 = true := by decide +kernel
set_option maxRecDepth 1000000 in
theorem k_496_81 : ckM 230 sp_496 us_496 ic_496 20000 36 36 os_496 (c_496_0 :: K_496) c_496_81 = true := by decide +kernel
set_option maxRecDepth 1000000 in
theorem k_496_82 : ckM 230 sp_496 us_496 ic_496 20000 36 36 os_496 (c_496_0 :: K_496) c_496_82 = true := by decide +kernel
set_option maxRecDepth 1000000 in
theorem k_496_83 : ckM 230 sp_496 us_496 ic_496 20000 36 36 os_496 (c_496_0 :: K_496) c_496_83 = true := by decide +kernel
set_option maxRecDepth 1000000 in
theorem k_496_84 : ckM 230 sp_496 us_496 ic_496 20000 36 36 os_496 (c_496_0 :: K_496) c_496_84 = true := by decide +kernel
set_option maxRecDepth 1000000 in
theorem k_496_85 : ckM 230 sp_496 us_496 ic_496 20000 36 36 os_496 (c_496_0 :: K_496) c_496_85 = true := by decide +kernel
set_option maxRecDepth 1000000 in
theorem k_496_86 : ckM 230 sp_496 us_496 ic_496 20000 36 36 os_496 (c_496_0 :: K_496) c_496_86 = true := by decide +kernel
set_option maxRecDepth 1000000 in
theorem k_496_87 : ckM 230 sp_496 us_496 ic_496 20000 36 36 os_496 (c_496_0 :: K_496) c_496_87 = true := by decide +kernel
set_option maxRecDepth 1000000 in
theorem k_496_88 : ckM 230 sp_496 us_496 ic_496 20000 36 36 os_496 (c_496_0 :: K_496) c_496_88 = true := by decide +kernel
set_option maxRecDepth 1000000 in
theorem k_496_89 : ckM 230 sp_496 us_496 ic_496 20000 36 36 os_496 (c_496_0 :: K_496) c_496_89 = true := by decide +kernel
set_option maxRecDepth 1000000 in
theorem k_496_90 : ckM 230 sp_496 us_496 ic_496 20000 36 36 os_496 (c_496_0 :: K_496) c_496_90 = true := by decide +kernel
set_option maxRecDepth 1000000 in
theorem k_496_91 : ckM 230 sp_496 us_496 ic_496 20000 36 36 os_496 (c_496_0 :: K_496) c_496_91 = true := by decide +kernel
set_option maxRecDepth 1000000 in
theorem k_496_92 : ckM 230 sp_496 us_496 ic_496 20000 36 36 os_496 (c_496_0 :: K_496) c_496_92 = true := by decide +kernel
set_option maxRecDepth 1000000 in
theorem k_496_93 : ckM 230 sp_496 us_496 ic_496 20000 36 36 os_496 (c_496_0 :: K_496) c_496_93 = true := by decide +kernel
set_option maxRecDepth 1000000 in
theorem k_496_94 : ckM 230 sp_496 us_496 ic_496 20000 36 36 os_496 (c_496_0 :: K_496) c_496_94 = true := by decide +kernel
set_option maxRecDepth 1000000 in
theorem k_496_95 : ckM 230 sp_496 us_496 ic_496 20000 36 36 os_496 (c_496_0 :: K_496) c_496_95 = true := by decide +kernel
set_option maxRecDepth 1000000 in
theorem k_496_96 : ckM 230 sp_496 us_496 ic_496 20000 36 36 os_496 (c_496_0 :: K_496) c_496_96 = true := by decide +kernel
set_option maxRecDepth 1000000 in
theorem k_496_97 : ckM 230 sp_496 us_496 ic_496 20000 36 36 os_496 (c_496_0 :: K_496) c_496_97 = true := by decide +kernel
set_option maxRecDepth 1000000 in
theorem k_496_98 : ckM 230 sp_496 us_496 ic_496 20000 36 36 os_496 (c_496_0 :: K_496) c_496_98 = true := by decide +kernel
set_option maxRecDepth 1000000 in
theorem k_496_99 : ckM 230 sp_496 us_496 ic_496 20000 36 36 os_496 (c_496_0 :: K_496) c_496_99 = true := by decide +kernel
set_option maxRecDepth 1000000 in
theorem k_496_100 : ckM 230 sp_496 us_496 ic_496 20000 36 36 os_496 (c_496_0 :: K_496) c_496_100 = true := by decide +kernel
set_option maxRecDepth 1000000 in
theorem k_496_101 : ckM 230 sp_496 us_496 ic_496 20000 36 36 os_496 (c_496_0 :: K_496) c_496_101 = true := by decide +kernel
set_option maxRecDepth 1000000 in
theorem k_496_102 : ckM 230 sp_496 us_496 ic_496 20000 36 36 os_496 (c_496_0 :: K_496) c_496_102 = true := by decide +kernel
set_option maxRecDepth 1000000 in
theorem k_496_103 : ckM 230 sp_496 us_496 ic_496 20000 36 36 os_496 (c_496_0 :: K_496) c_496_103 = true := by decide +kernel
