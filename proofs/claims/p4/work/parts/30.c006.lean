/-! ===== CONTRACTS, 32.c006 ===== -/
set_option maxRecDepth 1000000 in
theorem k_84_0 : ckM 33 sp_84 us_84 ic_84 20000 10 3 os_84 (c_84_0 :: K_84) c_84_0 = true := by decide +kernel
