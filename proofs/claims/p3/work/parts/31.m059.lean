/-! ===== CONTRACTS, 31.m059 ===== -/
set_option maxRecDepth 1000000 in
theorem k_532_5 : ckM 230 sp_532 us_532 ic_532 20000 36 36 os_532 (c_532_0 :: K_532) c_532_5 = true := by decide +kernel
set_option maxRecDepth 1000000 in
theorem k_532_6 : ckM 230 sp_532 us_532 ic_532 20000 36 36 os_532 (c_532_0 :: K_532) c_532_6 = true := by decide +kernel
set_option maxRecDepth 1000000 in
theorem k_532_7 : ckM 230 sp_532 us_532 ic_532 20000 36 36 os_532 (c_532_0 :: K_532) c_532_7 = true := by decide +kernel
set_option maxRecDepth 1000000 in
theorem k_532_8 : ckM 230 sp_532 us_532 ic_532 20000 36 36 os_532 (c_532_0 :: K_532) c_532_8 = true := by decide +kernel
