/-! ===== CONTRACTS, 31.m020 ===== -/
set_option maxRecDepth 1000000 in
theorem k_376_0 : ckM 249 sp_376 us_376 ic_376 20000 20 36 os_376 (c_376_0 :: K_376) c_376_0 = true := by decide +kernel
