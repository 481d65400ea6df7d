/-! ===== CONTRACTS, 31.p001 ===== -/
set_option maxRecDepth 1000000 in
theorem k_426_0 : ckM 224 sp_426 us_426 ic_426 20000 57 36 os_426 (c_426_0 :: K_426) c_426_0 = true := by decide +kernel
set_option maxRecDepth 1000000 in
theorem k_426_1 : ckM 224 sp_426 us_426 ic_426 20000 57 36 os_426 (c_426_0 :: K_426) c_426_1 = true := by decide +kernel
set_option maxRecDepth 1000000 in
theorem k_426_2 : ckM 224 sp_426 us_426 ic_426 20000 57 36 os_426 (c_426_0 :: K_426) c_426_2 = true := by decide +kernel
set_option maxRecDepth 1000000 in
theorem k_426_3 : ckM 224 sp_426 us_426 ic_426 20000 57 36 os_426 (c_426_0 :: K_426) c_426_3 = true := by decide +kernel
set_option maxRecDepth 1000000 in
theorem k_426_4 : ckM 224 sp_426 us_426 ic_426 20000 57 36 os_426 (c_426_0 :: K_426) c_426_4 = true := by decide +kernel
set_option maxRecDepth 1000000 in
theorem k_426_5 : ckM 224 sp_426 us_426 ic_426 20000 57 36 os_426 (c_426_0 :: K_426) c_426_5 = true := by decide +kernel
set_option maxRecDepth 1000000 in
theorem k_426_6 : ckM 224 sp_426 us_426 ic_426 20000 57 36 os_426 (c_426_0 :: K_426) c_426_6 = true := by decide +kernel
set_option maxRecDepth 1000000 in
theorem k_426_7 : ckM 224 sp_426 us_426 ic_426 20000 57 36 os_426 (c_426_0 :: K_426) c_426_7 = true := by decide +kernel
set_option maxRecDepth 1000000 in
theorem k_426_8 : ckM 224 sp_426 us_426 ic_426 20000 57 36 os_426 (c_426_0 :: K_426) c_426_8 = true := by decide +kernel
set_option maxRecDepth 1000000 in
theorem k_426_9 : ckM 224 sp_426 us_426 ic_426 20000 57 36 os_426 (c_426_0 :: K_426) c_426_9 = true := by decide +kernel
set_option maxRecDepth 1000000 in
theorem k_426_10 : ckM 224 sp_426 us_426 ic_426 20000 57 36 os_426 (c_426_0 :: K_426) c_426_10 = true := by decide +kernel
set_option maxRecDepth 1000000 in
theorem k_426_11 : ckM 224 sp_426 us_426 ic_426 20000 57 36 os_426 (c_426_0 :: K_426) c_426_11 = true := by decide +kernel
set_option maxRecDepth 1000000 in
theorem k_426_12 : ckM 224 sp_426 us_426 ic_426 20000 57 36 os_426 (c_426_0 :: K_426) c_426_12 = true := by decide +kernel
set_option maxRecDepth 1000000 in
theorem k_426_13 : ckM 224 sp_426 us_426 ic_426 20000 57 36 os_426 (c_426_0 :: K_426) c_426_13 = true := by decide +kernel
set_option maxRecDepth 1000000 in
theorem k_426_14 : ckM 224 sp_426 us_426 ic_426 20000 57 36 os_426 (c_426_0 :: K_426) c_426_14 = true := by decide +kernel
set_option maxRecDepth 1000000 in
theorem k_426_15 : ckM 224 sp_426 us_426 ic_426 20000 57 36 os_426 (c_426_0 :: K_426) c_426_15 = true := by decide +kernel
set_option maxRecDepth 1000000 in
theorem k_426_16 : ckM 224 sp_426 us_426 ic_426 20000 57 36 os_426 (c_426_0 :: K_426) c_426_16 = true := by decide +kernel
set_option maxRecDepth 1000000 in
theorem k_426_17 : ckM 224 sp_426 us_426 ic_426 20000 57 36 os_426 (c_426_0 :: K_426) c_426_17 = true := by decide +kernel
set_option maxRecDepth 1000000 in
theorem k_426_18 : ckM 224 sp_426 us_426 ic_426 20000 57 36 os_426 (c_426_0 :: K_426) c_426_18 = true := by decide +kernel
set_option maxRecDepth 1000000 in
theorem k_426_19 : ckM 224 sp_426 us_426 ic_426 20000 57 36 os_426 (c_426_0 :: K_426) c_426_19 = true := by decide +kernel
set_option maxRecDepth 1000000 in
theorem k_426_20 : ckM 224 sp_426 us_426 ic_426 20000 57 36 os_426 (c_426_0 :: K_426) c_426_20 = true := by decide +kernel
set_option maxRecDepth 1000000 in
theorem k_426_21 : ckM 224 sp_426 us_426 ic_426 20000 57 36 os_426 (c_426_0 :: K_426) c_426_21 = true := by decide +kernel
set_option maxRecDepth 1000000 in
theorem k_426_22 : ckM 224 sp_426 us_426 ic_426 20000 57 36 os_426 (c_426_0 :: K_426) c_426_22 = true := by decide +kernel
set_option maxRecDepth 1000000 in
theorem k_426_23 : ckM 224 sp_426 us_426 ic_426 20000 57 36 os_426 (c_426_0 :: K_426) c_426_23 = true := by decide +kernel
