/-! ===== CONTRACTS, 31.m018 ===== -/
set_option maxRecDepth 1000000 in
theorem k_302_0 : ckM 249 sp_302 us_302 ic_302 20000 20 36 os_302 (c_302_0 :: K_302) c_302_0 = true := by decide +kernel
