/-! ===== CONTRACTS, 31.m047 ===== -/
set_option maxRecDepth 1000000 in
theorem k_508_5 : ckM 230 sp_508 us_508 ic_508 20000 36 36 os_508 (c_508_0 :: K_508) c_508_5 = true := by decide +kernel
set_option maxRecDepth 1000000 in
theorem k_508_6 : ckM 230 sp_508 us_508 ic_508 20000 36 36 os_508 (c_508_0 :: K_508) c_508_6 = true := by decide +kernel
set_option maxRecDepth 1000000 in
theorem k_508_7 : ckM 230 sp_508 us_508 ic_508 20000 36 36 os_508 (c_508_0 :: K_508) c_508_7 = true := by decide +kernel
set_option maxRecDepth 1000000 in
theorem k_508_8 : ckM 230 sp_508 us_508 ic_508 20000 36 36 os_508 (c_508_0 :: K_508) c_508_8 = true := by decide +kernel
