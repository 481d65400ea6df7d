set_option maxRecDepth 1000000 in
theorem k_375_11 : ckM 230 sp_375 us_375 ic_375 20000 35 36 os_375 (c_375_0 :: K_375) c_375_11 = true := by decide +kernel
set_option maxRecDepth 1000000 in
theorem k_375_12 : ckM 230 sp_375 us_375 ic_375 20000 35 36 os_375 (c_375_0 :: K_375) c_375_12 = true := by decide +kernel
