/-! ===== CONTRACTS, 31.m043 ===== -/
set_option maxRecDepth 1000000 in
theorem k_496_13 : ckM 230 sp_496 us_496 ic_496 20000 36 36 os_496 (c_496_0 :: K_496) c_496_13 = true := by decide +kernel
set_option maxRecDepth 1000000 in
theorem k_496_14 : ckM 230 sp_496 us_496 ic_496 20000 36 36 os_496 (c_496_0 :: K_496) c_496_14 = true := by decide +kernel
set_option maxRecDepth 1000000 in
theorem k_496_15 : ckM 230 sp_496 us_496 ic_496 20000 36 36 os_496 (c_496_0 :: K_496) c_496_15 = true := by decide +kernel
set_option maxRecDepth 1000000 in
theorem k_496_16 : ckM 230 sp_496 us_496 ic_496 20000 36 36 os_496 (c_496_0 :: K_496) c_496_16 = true := by decide +kernel
set_option maxRecDepth 1000000 in
theorem k_496_17 : ckM 230 sp_496 us_496 ic_496 20000 36 36 os_496 (c_496_0 :: K_496) c_496_17 = true := by decide +kernel
set_option maxRecDepth 1000000 in
theorem k_496_18 : ckM 230 sp_496 us_496 ic_496 20000 36 36 os_496 (c_496_0 :: K_496) c_496_18 = true := by decide +kernel
set_option maxRecDepth 1000000 in
theorem k_496_19 : ckM 230 sp_496 us_496 ic_496 20000 36 36 os_496 (c_496_0 :: K_496) c_496_19 = true := by decide +kernel
set_option maxRecDepth 1000000 in
theorem k_496_20 : ckM 230 sp_496 us_496 ic_496 20000 36 36 os_496 (c_496_0 :: K_496) c_496_20 = true := by decide +kernel
set_option maxRecDepth 1000000 in
theorem k_496_21 : ckM 230 sp_496 us_496 ic_496 20000 36 36 os_496 (c_496_0 :: K_496) c_496_21 = true := by decide +kernel
set_option maxRecDepth 1000000 in
theorem k_496_22 : ckM 230 sp_496 us_496 ic_496 20000 36 36 os_496 (c_496_0 :: K_496) c_496_22 = true := by decide +kernel
set_option maxRecDepth 1000000 in
theorem k_496_23 : ckM 230 sp_496 us_496 ic_496 20000 36 36 os_496 (c_496_0 :: K_496) c_496_23 = true := by decide +kernel
set_option maxRecDepth 1000000 in
theorem k_496_24 : ckM 230 sp_496 us_496 ic_496 20000 36 36 os_496 (c_496_0 :: K_496) c_496_24 = true := by decide +kernel
set_option maxRecDepth 1000000 in
theorem k_496_25 : ckM 230 sp_496 us_496 ic_496 20000 36 36 os_496 (c_496_0 :: K_496) c_496_25 = true := by decide +kernel
set_option maxRecDepth 1000000 in
theorem k_496_26 : ckM 230 sp_496 us_496 ic_496 20000 36 36 os_496 (c_496_0 :: K_496) c_496_26 = true := by decide +kernel
set_option maxRecDepth 1000000 in
theorem k_496_27 : ckM 230 sp_496 us_496 ic_496 20000 36 36 os_496 (c_496_0 :: K_496) c_496_27 = true := by decide +kernel
set_option maxRecDepth 1000000 in
theorem k_496_28 : ckM 230 sp_496 us_496 ic_496 20000 36 36 os_496 (c_496_0 :: K_496) c_496_28 = true := by decide +kernel
set_option maxRecDepth 1000000 in
theorem k_496_29 : ckM 230 sp_496 us_496 ic_496 20000 36 36 os_496 (c_496_0 :: K_496) c_496_29 = true := by decide +kernel
set_option maxRecDepth 1000000 in
theorem k_496_30 : ckM 230 sp_496 us_496 ic_496 20000 36 36 os_496 (c_496_0 :: K_496) c_496_30 = true := by decide +kernel
set_option maxRecDepth 1000000 in
theorem k_496_31 : ckM 230 sp_496 us_496 ic_496 20000 36 36 os_496 (c_496_0 :: K_496) c_496_31 = true := by decide +kernel
set_option maxRecDepth 1000000 in
theorem k_496_32 : ckM 230 sp_496 us_496 ic_496 20000 36 36 os_496 (c_496_0 :: K_496) c_496_32 = true := by decide +kernel
set_option maxRecDepth 1000000 in
theorem k_496_33 : ckM 230 sp_496 us_496 ic_496 20000 36 36 os_496 (c_496_0 :: K_496) c_496_33 = true := by decide +kernel
set_option maxRecDepth 1000000 in
theorem k_496_34 : ckM 230 sp_496 us_496 ic_496 20000 36 36 os_496 (c_496_0 :: K_496) c_496_34 = true := by decide +kernel
set_option maxRecDepth 1000000 in
theorem k_496_35 : ckM 230 sp_496 us_496 ic_496 20000 36 36 os_496 (c_496_0 :: K_496) c_496_35 = true := by decide +kernel
set_option maxRecDepth 1000000 in
theorem k_496_36 : ckM 230 sp_496 us_496 ic_496 20000 36 36 os_496 (c_496_0 :: K_496) c_496_36 = true := by decide +kernel
set_option maxRecDepth 1000000 in
theorem k_496_37 : ckM 230 sp_496 us_496 ic_496 20000 36 36 os_496 (c_496_0 :: K_496) c_496_37 = true := by decide +kernel
set_option maxRecDepth 1000000 in
theorem k_496_38 : ckM 230 sp_496 us_496 ic_496 20000 36 36 os_496 (c_496_0 :: K_496) c_496_38 = true := by decide +kernel
set_option maxRecDepth 1000000 in
theorem k_496_39 : ckM 230 sp_496 us_496 ic_496 20000 36 36 os_496 (c_496_0 :: K_496) c_496_39 = true := by decide +kernel
set_option maxRecDepth 1000000 in
theorem k_496_40 : ckM 230 sp_496 us_496 ic_496 20000 36 36 os_496 (c_496_0 :: K_496) c_496_40 = true := by decide +kernel
set_option maxRecDepth 1000000 in
theorem k_496_41 : ckM 230 sp_496 us_496 ic_496 20000 36 36 os_496 (c_496_0 :: K_496) c_496_41 = true := by decide +kernel
set_option maxRecDepth 1000000 in
theorem k_496_42 : ckM 230 sp_496 us_496 ic_496 20000 36 36 os_496 (c_496_0 :: K_496) c_496_42 = true := by decide +kernel
set_option maxRecDepth 1000000 in
theorem k_496_43 : ckM 230 sp_496 us_496 ic_496 20000 36 36 os_496 (c_496_0 :: K_496) c_496_43 = true := by decide +kernel
set_option maxRecDepth 1000000 in
theorem k_496_44 : ckM 230 sp_496 us_496 ic_496 20000 36 36 os_496 (c_496_0 :: K_496) c_496_44 = true := by decide +kernel
set_option maxRecDepth 1000000 in
theorem k_496_45 : ckM 230 sp_496 us_496 ic_496 20000 36 36 os_496 (c_496_0 :: K_496) c_496_45 = true := by decide +kernel
set_option maxRecDepth 1000000 in
theorem k_496_46 : ckM 230 sp_496 us_496 ic_496 20000 36 36 os_496 (c_496_0 :: K_496) c_496_46 = true := by decide +kernel
set_option maxRecDepth 1000000 in
theorem k_496_47 : ckM 230 sp_496 us_496 ic_496 20000 36 36 os_496 (c_496_0 :: K_496) c_496_47 = true := by decide +kernel
set_option maxRecDepth 1000000 in
theorem k_496_48 : ckM 230 sp_496 us_496 ic_496 20000 36 36 os_496 (c_496_0 :: K_496) c_496_48 = true := by decide +kernel
set_option maxRecDepth 1000000 in
theorem k_496_49 : ckM 230 sp_496 us_496 ic_496 20000 36 36 os_496 (c_496_0 :: K_496) c_496_49 = true := by decide +kernel
set_option maxRecDepth 1000000 in
theorem k_496_50 : ckM 230 sp_496 us_496 ic_496 20000 36 36 os_496 (c_496_0 :: K_496) c_496_50 = true := by decide +kernel
set_option maxRecDepth 1000000 in
theorem k_496_51 : ckM 230 sp_496 us_496 ic_496 20000 36 36 os_496 (c_496_0 :: K_496) c_496_51 = true := by decide +kernel
set_option maxRecDepth 1000000 in
theorem k_496_52 : ckM 230 sp_496 us_496 ic_496 20000 36 36 os_496 (c_496_0 :: K_496) c_496_52 = true := by decide +kernel
set_option maxRecDepth 1000000 in
theorem k_496_53 : ckM 230 sp_496 us_496 ic_496 20000 36 36 os_496 (c_496_0 :: K_496) c_496_53 = true := by decide +kernel
set_option maxRecDepth 1000000 in
theorem k_496_54 : ckM 230 sp_496 us_496 ic_496 20000 36 36 os_496 (c_496_0 :: K_496) c_496_54 = true := by decide +kernel
