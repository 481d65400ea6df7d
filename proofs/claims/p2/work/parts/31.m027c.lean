set_option maxRecDepth 1000000 in
theorem k_381_11 : ckM 230 sp_381 us_381 ic_381 20000 35 36 os_381 (c_381_0 :: K_381) c_381_11 = true := by decide +kernel
set_option maxRecDepth 1000000 in
theorem k_381_12 : ckM 230 sp_381 us_381 ic_381 20000 35 36 os_381 (c_381_0 :: K_381) c_381_12 = true := by decide +kernel
