/-! ===== CONTRACTS, 31.m041 ===== -/
set_option maxRecDepth 1000000 in
theorem k_496_5 : ckM 230 sp_496 us_496 ic_496 20000 36 36 os_496 (c_496_0 :: K_496) c_496_5 = true := by decide +kernel
set_option maxRecDepth 1000000 in
theorem k_496_6 : ckM 230 sp_496 us_496 ic_496 20000 36 36 os_496 (c_496_0 :: K_496) c_496_6 = true := by decide +kernel
set_option maxRecDepth 1000000 in
theorem k_496_7 : ckM 230 sp_496 us_496 ic_496 20000 36 36 os_496 (c_496_0 :: K_496) c_496_7 = true := by decide +kernel
set_option maxRecDepth 1000000 in
theorem k_496_8 : ckM 230 sp_496 us_496 ic_496 20000 36 36 os_496 (c_496_0 :: K_496) c_496_8 = true := by decide +kernel
