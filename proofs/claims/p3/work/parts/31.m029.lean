/-! ===== CONTRACTS, 31.m029 ===== -/
set_option maxRecDepth 1000000 in
theorem k_472_3 : ckM 230 sp_472 us_472 ic_472 20000 36 36 os_472 (c_472_0 :: K_472) c_472_3 = true := by decide +kernel
set_option maxRecDepth 1000000 in
theorem k_472_4 : ckM 230 sp_472 us_472 ic_472 20000 36 36 os_472 (c_472_0 :: K_472) c_472_4 = true := by decide +kernel
set_option maxRecDepth 1000000 in
theorem k_472_5 : ckM 230 sp_472 us_472 ic_472 20000 36 36 os_472 (c_472_0 :: K_472) c_472_5 = true := by decide +kernel
set_option maxRecDepth 1000000 in
theorem k_472_6 : ckM 230 sp_472 us_472 ic_472 20000 36 36 os_472 (c_472_0 :: K_472) c_472_6 = true := by decide +kernel
set_option maxRecDepth 1000000 in
theorem k_472_7 : ckM 230 sp_472 us_472 ic_472 20000 36 36 os_472 (c_472_0 :: K_472) c_472_7 = true := by decide +kernel
set_option maxRecDepth 1000000 in
theorem k_472_8 : ckM 230 sp_472 us_472 ic_472 20000 36 36 os_472 (c_472_0 :: K_472) c_472_8 = true := by decide +kernel
