set_option maxRecDepth 1000000 in
theorem k_369_7 : ckM 230 sp_369 us_369 ic_369 20000 35 36 os_369 (c_369_0 :: K_369) c_369_7 = true := by decide +kernel
set_option maxRecDepth 1000000 in
theorem k_369_8 : ckM 230 sp_369 us_369 ic_369 20000 35 36 os_369 (c_369_0 :: K_369) c_369_8 = true := by decide +kernel
set_option maxRecDepth 1000000 in
theorem k_369_9 : ckM 230 sp_369 us_369 ic_369 20000 35 36 os_369 (c_369_0 :: K_369) c_369_9 = true := by decide +kernel
set_option maxRecDepth 1000000 in
theorem k_369_10 : ckM 230 sp_369 us_369 ic_369 20000 35 36 os_369 (c_369_0 :: K_369) c_369_10 = true := by decide +kernel
