/-! ===== CONTRACTS, 31.p002 ===== -/
set_option maxRecDepth 1000000 in
theorem k_561_24 : ckM 224 sp_561 us_561 ic_561 20000 57 36 os_561 (c_561_0 :: K_561) c_561_24 = true := by decide +kernel
