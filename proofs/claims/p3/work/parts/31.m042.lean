/-! ===== CONTRACTS, 31.m042 ===== -/
set_option maxRecDepth 1000000 in
theorem k_496_9 : ckM 230 sp_496 us_496 ic_496 20000 36 36 os_496 (c_496_0 :: K_496) c_496_9 = true := by decide +kernel
set_option maxRecDepth 1000000 in
theorem k_496_10 : ckM 230 sp_496 us_496 ic_496 20000 36 36 os_496 (c_496_0 :: K_496) c_496_10 = true := by decide +kernel
set_option maxRecDepth 1000000 in
theorem k_496_11 : ckM 230 sp_496 us_496 ic_496 20000 36 36 os_496 (c_496_0 :: K_496) c_496_11 = true := by decide +kernel
set_option maxRecDepth 1000000 in
theorem k_496_12 : ckM 230 sp_496 us_496 ic_496 20000 36 36 os_496 (c_496_0 :: K_496) c_496_12 = true := by decide +kernel
