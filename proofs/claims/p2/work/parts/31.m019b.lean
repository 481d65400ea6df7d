set_option maxRecDepth 1000000 in
theorem k_357_7 : ckM 230 sp_357 us_357 ic_357 20000 35 36 os_357 (c_357_0 :: K_357) c_357_7 = true := by decide +kernel
set_option maxRecDepth 1000000 in
theorem k_357_8 : ckM 230 sp_357 us_357 ic_357 20000 35 36 os_357 (c_357_0 :: K_357) c_357_8 = true := by decide +kernel
set_option maxRecDepth 1000000 in
theorem k_357_9 : ckM 230 sp_357 us_357 ic_357 20000 35 36 os_357 (c_357_0 :: K_357) c_357_9 = true := by decide +kernel
set_option maxRecDepth 1000000 in
theorem k_357_10 : ckM 230 sp_357 us_357 ic_357 20000 35 36 os_357 (c_357_0 :: K_357) c_357_10 = true := by decide +kernel
