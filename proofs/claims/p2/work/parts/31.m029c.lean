set_option maxRecDepth 1000000 in
theorem k_387_11 : ckM 230 sp_387 us_387 ic_387 20000 35 36 os_387 (c_387_0 :: K_387) c_387_11 = true := by decide +kernel
set_option maxRecDepth 1000000 in
theorem k_387_12 : ckM 230 sp_387 us_387 ic_387 20000 35 36 os_387 (c_387_0 :: K_387) c_387_12 = true := by decide +kernel
