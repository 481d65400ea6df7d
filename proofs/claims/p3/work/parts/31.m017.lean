/-! ===== CONTRACTS, 31.m017 ===== -/
set_option maxRecDepth 1000000 in
theorem k_374_0 : ckM 249 sp_374 us_374 ic_374 20000 20 36 os_374 (c_374_0 :: K_374) c_374_0 = true := by decide +kernel
