/-! ===== CONTRACTS, 31.m035 ===== -/
set_option maxRecDepth 1000000 in
theorem k_484_5 : ckM 230 sp_484 us_484 ic_484 20000 36 36 os_484 (c_484_0 :: K_484) c_484_5 = true := by decide +kernel
set_option maxRecDepth 1000000 in
theorem k_484_6 : ckM 230 sp_484 us_484 ic_484 20000 36 36 os_484 (c_484_0 :: K_484) c_484_6 = true := by decide +kernel
set_option maxRecDepth 1000000 in
theorem k_484_7 : ckM 230 sp_484 us_484 ic_484 20000 36 36 os_484 (c_484_0 :: K_484) c_484_7 = true := by decide +kernel
set_option maxRecDepth 1000000 in
theorem k_484_8 : ckM 230 sp_484 us_484 ic_484 20000 36 36 os_484 (c_484_0 :: K_484) c_484_8 = true := by decide +kernel
