/-! ===== CONTRACTS, 31.m030 ===== -/
set_option maxRecDepth 1000000 in
theorem k_397_7 : ckM 230 sp_397 us_397 ic_397 20000 38 36 os_397 (c_397_0 :: K_397) c_397_7 = true := by decide +kernel
set_option maxRecDepth 1000000 in
theorem k_397_8 : ckM 230 sp_397 us_397 ic_397 20000 38 36 os_397 (c_397_0 :: K_397) c_397_8 = true := by decide +kernel
set_option maxRecDepth 1000000 in
theorem k_397_9 : ckM 230 sp_397 us_397 ic_397 20000 38 36 os_397 (c_397_0 :: K_397) c_397_9 = true := by decide +kernel
set_option maxRecDepth 1000000 in
theorem k_397_10 : ckM 230 sp_397 us_397 ic_397 20000 38 36 os_397 (c_397_0 :: K_397) c_397_10 = true := by decide +kernel
