/-! ===== CONTRACTS, 31.p001 ===== -/
set_option maxRecDepth 1000000 in
theorem k_561_0 : ckM 224 sp_561 us_561 ic_561 20000 57 36 os_561 (c_561_0 :: K_561) c_561_0 = true := by decide +kernel
set_option maxRecDepth 1000000 in
theorem k_561_1 : ckM 224 sp_561 us_561 ic_561 20000 57 36 os_561 (c_561_0 :: K_561) c_561_1 = true := by decide +kernel
set_option maxRecDepth 1000000 in
theorem k_561_2 : ckM 224 sp_561 us_561 ic_561 20000 57 36 os_561 (c_561_0 :: K_561) c_561_2 = true := by decide +kernel
set_option maxRecDepth 1000000 in
theorem k_561_3 : ckM 224 sp_561 us_561 ic_561 20000 57 36 os_561 (c_561_0 :: K_561) c_561_3 = true := by decide +kernel
set_option maxRecDepth 1000000 in
theorem k_561_4 : ckM 224 sp_561 us_561 ic_561 20000 57 36 os_561 (c_561_0 :: K_561) c_561_4 = true := by decide +kernel
set_option maxRecDepth 1000000 in
theorem k_561_5 : ckM 224 sp_561 us_561 ic_561 20000 57 36 os_561 (c_561_0 :: K_561) c_561_5 = true := by decide +kernel
set_option maxRecDepth 1000000 in
theorem k_561_6 : ckM 224 sp_561 us_561 ic_561 20000 57 36 os_561 (c_561_0 :: K_561) c_561_6 = true := by decide +kernel
set_option maxRecDepth 1000000 in
theorem k_561_7 : ckM 224 sp_561 us_561 ic_561 20000 57 36 os_561 (c_561_0 :: K_561) c_561_7 = true := by decide +kernel
set_option maxRecDepth 1000000 in
theorem k_561_8 : ckM 224 sp_561 us_561 ic_561 20000 57 36 os_561 (c_561_0 :: K_561) c_561_8 = true := by decide +kernel
set_option maxRecDepth 1000000 in
theorem k_561_9 : ckM 224 sp_561 us_561 ic_561 20000 57 36 os_561 (c_561_0 :: K_561) c_561_9 = true := by decide +kernel
set_option maxRecDepth 1000000 in
theorem k_561_10 : ckM 224 sp_561 us_561 ic_561 20000 57 36 os_561 (c_561_0 :: K_561) c_561_10 = true := by decide +kernel
set_option maxRecDepth 1000000 in
theorem k_561_11 : ckM 224 sp_561 us_561 ic_561 20000 57 36 os_561 (c_561_0 :: K_561) c_561_11 = true := by decide +kernel
set_option maxRecDepth 1000000 in
theorem k_561_12 : ckM 224 sp_561 us_561 ic_561 20000 57 36 os_561 (c_561_0 :: K_561) c_561_12 = true := by decide +kernel
set_option maxRecDepth 1000000 in
theorem k_561_13 : ckM 224 sp_561 us_561 ic_561 20000 57 36 os_561 (c_561_0 :: K_561) c_561_13 = true := by decide +kernel
set_option maxRecDepth 1000000 in
theorem k_561_14 : ckM 224 sp_561 us_561 ic_561 20000 57 36 os_561 (c_561_0 :: K_561) c_561_14 = true := by decide +kernel
set_option maxRecDepth 1000000 in
theorem k_561_15 : ckM 224 sp_561 us_561 ic_561 20000 57 36 os_561 (c_561_0 :: K_561) c_561_15 = true := by decide +kernel
set_option maxRecDepth 1000000 in
theorem k_561_16 : ckM 224 sp_561 us_561 ic_561 20000 57 36 os_561 (c_561_0 :: K_561) c_561_16 = true := by decide +kernel
set_option maxRecDepth 1000000 in
theorem k_561_17 : ckM 224 sp_561 us_561 ic_561 20000 57 36 os_561 (c_561_0 :: K_561) c_561_17 = true := by decide +kernel
set_option maxRecDepth 1000000 in
theorem k_561_18 : ckM 224 sp_561 us_561 ic_561 20000 57 36 os_561 (c_561_0 :: K_561) c_561_18 = true := by decide +kernel
set_option maxRecDepth 1000000 in
theorem k_561_19 : ckM 224 sp_561 us_561 ic_561 20000 57 36 os_561 (c_561_0 :: K_561) c_561_19 = true := by decide +kernel
set_option maxRecDepth 1000000 in
theorem k_561_20 : ckM 224 sp_561 us_561 ic_561 20000 57 36 os_561 (c_561_0 :: K_561) c_561_20 = true := by decide +kernel
set_option maxRecDepth 1000000 in
theorem k_561_21 : ckM 224 sp_561 us_561 ic_561 20000 57 36 os_561 (c_561_0 :: K_561) c_561_21 = true := by decide +kernel
set_option maxRecDepth 1000000 in
theorem k_561_22 : ckM 224 sp_561 us_561 ic_561 20000 57 36 os_561 (c_561_0 :: K_561) c_561_22 = true := by decide +kernel
set_option maxRecDepth 1000000 in
theorem k_561_23 : ckM 224 sp_561 us_561 ic_561 20000 57 36 os_561 (c_561_0 :: K_561) c_561_23 = true := by decide +kernel
