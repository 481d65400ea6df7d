set_option maxRecDepth 1000000 in
theorem k_363_7 : ckM 230 sp_363 us_363 ic_363 20000 35 36 os_363 (c_363_0 :: K_363) c_363_7 = true := by decide +kernel
set_option maxRecDepth 1000000 in
theorem k_363_8 : ckM 230 sp_363 us_363 ic_363 20000 35 36 os_363 (c_363_0 :: K_363) c_363_8 = true := by decide +kernel
set_option maxRecDepth 1000000 in
theorem k_363_9 : ckM 230 sp_363 us_363 ic_363 20000 35 36 os_363 (c_363_0 :: K_363) c_363_9 = true := by decide +kernel
set_option maxRecDepth 1000000 in
theorem k_363_10 : ckM 230 sp_363 us_363 ic_363 20000 35 36 os_363 (c_363_0 :: K_363) c_363_10 = true := by decide +kernel
