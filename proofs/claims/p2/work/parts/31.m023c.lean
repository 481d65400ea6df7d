set_option maxRecDepth 1000000 in
theorem k_369_11 : ckM 230 sp_369 us_369 ic_369 20000 35 36 os_369 (c_369_0 :: K_369) c_369_11 = true := by decide +kernel
set_option maxRecDepth 1000000 in
theorem k_369_12 : ckM 230 sp_369 us_369 ic_369 20000 35 36 os_369 (c_369_0 :: K_369) c_369_12 = true := by decide +kernel
