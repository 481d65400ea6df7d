set_option maxRecDepth 1000000 in
theorem k_363_11 : ckM 230 sp_363 us_363 ic_363 20000 35 36 os_363 (c_363_0 :: K_363) c_363_11 = true := by decide +kernel
set_option maxRecDepth 1000000 in
theorem k_363_12 : ckM 230 sp_363 us_363 ic_363 20000 35 36 os_363 (c_363_0 :: K_363) c_363_12 = true := by decide +kernel
