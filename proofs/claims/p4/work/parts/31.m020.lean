/-! ===== CONTRACTS, 31.m020 ===== -/
set_option maxRecDepth 1000000 in
theorem k_303_0 : ckM 249 sp_303 us_303 ic_303 20000 20 36 os_303 (c_303_0 :: K_303) c_303_0 = true := by decide +kernel
