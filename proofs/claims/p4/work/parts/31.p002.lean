/-! ===== CONTRACTS, 31.p002 ===== -/
set_option maxRecDepth 1000000 in
theorem k_426_24 : ckM 224 sp_426 us_426 ic_426 20000 57 36 os_426 (c_426_0 :: K_426) c_426_24 = true := by decide +kernel
