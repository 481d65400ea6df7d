/-! ===== CONTRACTS, 31.m031 ===== -/
set_option maxRecDepth 1000000 in
theorem k_397_11 : ckM 230 sp_397 us_397 ic_397 20000 38 36 os_397 (c_397_0 :: K_397) c_397_11 = true := by decide +kernel
set_option maxRecDepth 1000000 in
theorem k_397_12 : ckM 230 sp_397 us_397 ic_397 20000 38 36 os_397 (c_397_0 :: K_397) c_397_12 = true := by decide +kernel
