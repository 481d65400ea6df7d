/-! ===== CONTRACTS, 31.m036 ===== -/
set_option maxRecDepth 1000000 in
theorem k_484_9 : ckM 230 sp_484 us_484 ic_484 20000 36 36 os_484 (c_484_0 :: K_484) c_484_9 = true := by decide +kernel
set_option maxRecDepth 1000000 in
theorem k_484_10 : ckM 230 sp_484 us_484 ic_484 20000 36 36 os_484 (c_484_0 :: K_484) c_484_10 = true := by decide +kernel
set_option maxRecDepth 1000000 in
theorem k_484_11 : ckM 230 sp_484 us_484 ic_484 20000 36 36 os_484 (c_484_0 :: K_484) c_484_11 = true := by decide +kernel
set_option maxRecDepth 1000000 in
theorem k_484_12 : ckM 230 sp_484 us_484 ic_484 20000 36 36 os_484 (c_484_0 :: K_484) c_484_12 = true := by decide +kernel
