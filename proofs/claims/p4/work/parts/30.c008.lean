/-! ===== CONTRACTS, 32.c008 ===== -/
set_option maxRecDepth 1000000 in
theorem k_85_0 : ckM 33 sp_85 us_85 ic_85 20000 10 3 os_85 (c_85_0 :: K_85) c_85_0 = true := by decide +kernel
