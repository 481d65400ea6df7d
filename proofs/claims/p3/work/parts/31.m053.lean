/-! ===== CONTRACTS, 31.m053 ===== -/
set_option maxRecDepth 1000000 in
theorem k_520_5 : ckM 230 sp_520 us_520 ic_520 20000 36 36 os_520 (c_520_0 :: K_520) c_520_5 = true := by decide +kernel
set_option maxRecDepth 1000000 in
theorem k_520_6 : ckM 230 sp_520 us_520 ic_520 20000 36 36 os_520 (c_520_0 :: K_520) c_520_6 = true := by decide +kernel
set_option maxRecDepth 1000000 in
theorem k_520_7 : ckM 230 sp_520 us_520 ic_520 20000 36 36 os_520 (c_520_0 :: K_520) c_520_7 = true := by decide +kernel
set_option maxRecDepth 1000000 in
theorem k_520_8 : ckM 230 sp_520 us_520 ic_520 20000 36 36 os_520 (c_520_0 :: K_520) c_520_8 = true := by decide +kernel
