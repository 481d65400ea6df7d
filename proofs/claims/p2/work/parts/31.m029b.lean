set_option maxRecDepth 1000000 in
theorem k_387_7 : ckM 230 sp_387 us_387 ic_387 20000 35 36 os_387 (c_387_0 :: K_387) c_387_7 = true := by decide +kernel
set_option maxRecDepth 1000000 in
theorem k_387_8 : ckM 230 sp_387 us_387 ic_387 20000 35 36 os_387 (c_387_0 :: K_387) c_387_8 = true := by decide +kernel
set_option maxRecDepth 1000000 in
theorem k_387_9 : ckM 230 sp_387 us_387 ic_387 20000 35 36 os_387 (c_387_0 :: K_387) c_387_9 = true := by decide +kernel
set_option maxRecDepth 1000000 in
theorem k_387_10 : ckM 230 sp_387 us_387 ic_387 20000 35 36 os_387 (c_387_0 :: K_387) c_387_10 = true := by decide +kernel
