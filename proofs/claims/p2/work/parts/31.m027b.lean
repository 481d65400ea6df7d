set_option maxRecDepth 1000000 in
theorem k_381_7 : ckM 230 sp_381 us_381 ic_381 20000 35 36 os_381 (c_381_0 :: K_381) c_381_7 = true := by decide +kernel
set_option maxRecDepth 1000000 in
theorem k_381_8 : ckM 230 sp_381 us_381 ic_381 20000 35 36 os_381 (c_381_0 :: K_381) c_381_8 = true := by decide +kernel
set_option maxRecDepth 1000000 in
theorem k_381_9 : ckM 230 sp_381 us_381 ic_381 20000 35 36 os_381 (c_381_0 :: K_381) c_381_9 = true := by decide +kernel
set_option maxRecDepth 1000000 in
theorem k_381_10 : ckM 230 sp_381 us_381 ic_381 20000 35 36 os_381 (c_381_0 :: K_381) c_381_10 = true := by decide +kernel
