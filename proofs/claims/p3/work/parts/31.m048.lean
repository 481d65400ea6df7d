/-! ===== CONTRACTS, 31.m048 ===== -/
set_option maxRecDepth 1000000 in
theorem k_508_9 : ckM 230 sp_508 us_508 ic_508 20000 36 36 os_508 (c_508_0 :: K_508) c_508_9 = true := by decide +kernel
set_option maxRecDepth 1000000 in
theorem k_508_10 : ckM 230 sp_508 us_508 ic_508 20000 36 36 os_508 (c_508_0 :: K_508) c_508_10 = true := by decide +kernel
set_option maxRecDepth 1000000 in
theorem k_508_11 : ckM 230 sp_508 us_508 ic_508 20000 36 36 os_508 (c_508_0 :: K_508) c_508_11 = true := by decide +kernel
set_option maxRecDepth 1000000 in
theorem k_508_12 : ckM 230 sp_508 us_508 ic_508 20000 36 36 os_508 (c_508_0 :: K_508) c_508_12 = true := by decide +kernel
