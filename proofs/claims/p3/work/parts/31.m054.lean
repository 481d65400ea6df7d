/-! ===== CONTRACTS, 31.m054 ===== -/
set_option maxRecDepth 1000000 in
theorem k_520_9 : ckM 230 sp_520 us_520 ic_520 20000 36 36 os_520 (c_520_0 :: K_520) c_520_9 = true := by decide +kernel
set_option maxRecDepth 1000000 in
theorem k_520_10 : ckM 230 sp_520 us_520 ic_520 20000 36 36 os_520 (c_520_0 :: K_520) c_520_10 = true := by decide +kernel
set_option maxRecDepth 1000000 in
theorem k_520_11 : ckM 230 sp_520 us_520 ic_520 20000 36 36 os_520 (c_520_0 :: K_520) c_520_11 = true := by decide +kernel
set_option maxRecDepth 1000000 in
theorem k_520_12 : ckM 230 sp_520 us_520 ic_520 20000 36 36 os_520 (c_520_0 :: K_520) c_520_12 = true := by decide +kernel
