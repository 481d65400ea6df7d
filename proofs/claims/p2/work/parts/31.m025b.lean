set_option maxRecDepth 1000000 in
theorem k_375_7 : ckM 230 sp_375 us_375 ic_375 20000 35 36 os_375 (c_375_0 :: K_375) c_375_7 = true := by decide +kernel
set_option maxRecDepth 1000000 in
theorem k_375_8 : ckM 230 sp_375 us_375 ic_375 20000 35 36 os_375 (c_375_0 :: K_375) c_375_8 = true := by decide +kernel
set_option maxRecDepth 1000000 in
theorem k_375_9 : ckM 230 sp_375 us_375 ic_375 20000 35 36 os_375 (c_375_0 :: K_375) c_375_9 = true := by decide +kernel
set_option maxRecDepth 1000000 in
theorem k_375_10 : ckM 230 sp_375 us_375 ic_375 20000 35 36 os_375 (c_375_0 :: K_375) c_375_10 = true := by decide +kernel
