/-! ===== CONTRACTS, 31.m060 ===== -/
set_option maxRecDepth 1000000 in
theorem k_532_9 : ckM 230 sp_532 us_532 ic_532 20000 36 36 os_532 (c_532_0 :: K_532) c_532_9 = true := by decide +kernel
set_option maxRecDepth 1000000 in
theorem k_532_10 : ckM 230 sp_532 us_532 ic_532 20000 36 36 os_532 (c_532_0 :: K_532) c_532_10 = true := by decide +kernel
set_option maxRecDepth 1000000 in
theorem k_532_11 : ckM 230 sp_532 us_532 ic_532 20000 36 36 os_532 (c_532_0 :: K_532) c_532_11 = true := by decide +kernel
set_option maxRecDepth 1000000 in
theorem k_532_12 : ckM 230 sp_532 us_532 ic_532 20000 36 36 os_532 (c_532_0 :: K_532) c_532_12 = true := by decide +kernel
