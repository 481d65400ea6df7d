/-! ===== CONTRACTS, 31.m018 ===== -/
set_option maxRecDepth 1000000 in
theorem k_375_0 : ckM 249 sp_375 us_375 ic_375 20000 20 36 os_375 (c_375_0 :: K_375) c_375_0 = true := by decide +kernel
