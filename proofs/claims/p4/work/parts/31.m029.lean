/-! ===== CONTRACTS, 31.m029 ===== -/
set_option maxRecDepth 1000000 in
theorem k_397_3 : ckM 230 sp_397 us_397 ic_397 20000 38 36 os_397 (c_397_0 :: K_397) c_397_3 = true := by decide +kernel
set_option maxRecDepth 1000000 in
theorem k_397_4 : ckM 230 sp_397 us_397 ic_397 20000 38 36 os_397 (c_397_0 :: K_397) c_397_4 = true := by decide +kernel
set_option maxRecDepth 1000000 in
theorem k_397_5 : ckM 230 sp_397 us_397 ic_397 20000 38 36 os_397 (c_397_0 :: K_397) c_397_5 = true := by decide +kernel
set_option maxRecDepth 1000000 in
theorem k_397_6 : ckM 230 sp_397 us_397 ic_397 20000 38 36 os_397 (c_397_0 :: K_397) c_397_6 = true := by decide +kernel
