/-! ===== CONTRACTS, 31.m017 ===== -/
set_option maxRecDepth 1000000 in
theorem k_305_0 : ckM 249 sp_305 us_305 ic_305 20000 19 36 os_305 (c_305_0 :: K_305) c_305_0 = true := by decide +kernel
