/-! ===== CONTRACTS, 31.m030 ===== -/
set_option maxRecDepth 1000000 in
theorem k_472_9 : ckM 230 sp_472 us_472 ic_472 20000 36 36 os_472 (c_472_0 :: K_472) c_472_9 = true := by decide +kernel
set_option maxRecDepth 1000000 in
theorem k_472_10 : ckM 230 sp_472 us_472 ic_472 20000 36 36 os_472 (c_472_0 :: K_472) c_472_10 = true := by decide +kernel
set_option maxRecDepth 1000000 in
theorem k_472_11 : ckM 230 sp_472 us_472 ic_472 20000 36 36 os_472 (c_472_0 :: K_472) c_472_11 = true := by decide +kernel
set_option maxRecDepth 1000000 in
theorem k_472_12 : ckM 230 sp_472 us_472 ic_472 20000 36 36 os_472 (c_472_0 :: K_472) c_472_12 = true := by decide +kernel
