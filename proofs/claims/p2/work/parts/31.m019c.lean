set_option maxRecDepth 1000000 in
theorem k_357_11 : ckM 230 sp_357 us_357 ic_357 20000 35 36 os_357 (c_357_0 :: K_357) c_357_11 = true := by decide +kernel
set_option maxRecDepth 1000000 in
theorem k_357_12 : ckM 230 sp_357 us_357 ic_357 20000 35 36 os_357 (c_357_0 :: K_357) c_357_12 = true := by decide +kernel
