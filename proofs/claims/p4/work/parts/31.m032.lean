/-! ===== CONTRACTS, 31.m032 ===== -/
set_option maxRecDepth 1000000 in
theorem k_397_13 : ckM 230 sp_397 us_397 ic_397 20000 38 36 os_397 (c_397_0 :: K_397) c_397_13 = true := by decide +kernel
set_option maxRecDepth 1000000 in
theorem k_397_14 : ckM 230 sp_397 us_397 ic_397 20000 38 36 os_397 (c_397_0 :: K_397) c_397_14 = true := by decide +kernel
set_option maxRecDepth 1000000 in
theorem k_397_15 : ckM 230 sp_397 us_397 ic_397 20000 38 36 os_397 (c_397_0 :: K_397) c_397_15 = true := by decide +kernel
set_option maxRecDepth 1000000 in
theorem k_397_16 : ckM 230 sp_397 us_397 ic_397 20000 38 36 os_397 (c_397_0 :: K_397) c_397_16 = true := by decide +kernel
set_option maxRecDepth 1000000 in
theorem k_397_17 : ckM 230 sp_397 us_397 ic_397 20000 38 36 os_397 (c_397_0 :: K_397) c_397_17 = true := by decide +kernel
set_option maxRecDepth 1000000 in
theorem k_397_18 : ckM 230 sp_397 us_397 ic_397 20000 38 36 os_397 (c_397_0 :: K_397) c_397_18 = true := by decide +kernel
set_option maxRecDepth 1000000 in
theorem k_397_19 : ckM 230 sp_397 us_397 ic_397 20000 38 36 os_397 (c_397_0 :: K_397) c_397_19 = true := by decide +kernel
set_option maxRecDepth 1000000 in
theorem k_397_20 : ckM 230 sp_397 us_397 ic_397 20000 38 36 os_397 (c_397_0 :: K_397) c_397_20 = true := by decide +kernel
set_option maxRecDepth 1000000 in
theorem k_397_21 : ckM 230 sp_397 us_397 ic_397 20000 38 36 os_397 (c_397_0 :: K_397) c_397_21 = true := by decide +kernel
set_option maxRecDepth 1000000 in
theorem k_397_22 : ckM 230 sp_397 us_397 ic_397 20000 38 36 os_397 (c_397_0 :: K_397) c_397_22 = true := by decide +kernel
set_option maxRecDepth 1000000 in
theorem k_397_23 : ckM 230 sp_397 us_397 ic_397 20000 38 36 os_397 (c_397_0 :: K_397) c_397_23 = true := by decide +kernel
set_option maxRecDepth 1000000 in
theorem k_397_24 : ckM 230 sp_397 us_397 ic_397 20000 38 36 os_397 (c_397_0 :: K_397) c_397_24 = true := by decide +kernel
set_option maxRecDepth 1000000 in
theorem k_397_25 : ckM 230 sp_397 us_397 ic_397 20000 38 36 os_397 (c_397_0 :: K_397) c_397_25 = true := by decide +kernel
set_option maxRecDepth 1000000 in
theorem k_397_26 : ckM 230 sp_397 us_397 ic_397 20000 38 36 os_397 (c_397_0 :: K_397) c_397_26 = true := by decide +kernel
set_option maxRecDepth 1000000 in
theorem k_397_27 : ckM 230 sp_397 us_397 ic_397 20000 38 36 os_397 (c_397_0 :: K_397) c_397_27 = true := by decide +kernel
set_option maxRecDepth 1000000 in
theorem k_397_28 : ckM 230 sp_397 us_397 ic_397 20000 38 36 os_397 (c_397_0 :: K_397) c_397_28 = true := by decide +kernel
set_option maxRecDepth 1000000 in
theorem k_397_29 : ckM 230 sp_397 us_397 ic_397 20000 38 36 os_397 (c_397_0 :: K_397) c_397_29 = true := by decide +kernel
set_option maxRecDepth 1000000 in
theorem k_397_30 : ckM 230 sp_397 us_397 ic_397 20000 38 36 os_397 (c_397_0 :: K_397) c_397_30 = true := by decide +kernel
set_option maxRecDepth 1000000 in
theorem k_397_31 : ckM 230 sp_397 us_397 ic_397 20000 38 36 os_397 (c_397_0 :: K_397) c_397_31 = true := by decide +kernel
set_option maxRecDepth 1000000 in
theorem k_397_32 : ckM 230 sp_397 us_397 ic_397 20000 38 36 os_397 (c_397_0 :: K_397) c_397_32 = true := by decide +kernel
set_option maxRecDepth 1000000 in
theorem k_397_33 : ckM 230 sp_397 us_397 ic_397 20000 38 36 os_397 (c_397_0 :: K_397) c_397_33 = true := by decide +kernel
set_option maxRecDepth 1000000 in
theorem k_397_34 : ckM 230 sp_397 us_397 ic_397 20000 38 36 os_397 (c_397_0 :: K_397) c_397_34 = true := by decide +kernel
set_option maxRecDepth 1000000 in
theorem k_397_35 : ckM 230 sp_397 us_397 ic_397 20000 38 36 os_397 (c_397_0 :: K_397) c_397_35 = true := by decide +kernel
set_option maxRecDepth 1000000 in
theorem k_397_36 : ckM 230 sp_397 us_397 ic_397 20000 38 36 os_397 (c_397_0 :: K_397) c_397_36 = true := by decide +kernel
set_option maxRecDepth 1000000 in
theorem k_397_37 : ckM 230 sp_397 us_397 ic_397 20000 38 36 os_397 (c_397_0 :: K_397) c_397_37 = true := by decide +kernel
set_option maxRecDepth 1000000 in
theorem k_397_38 : ckM 230 sp_397 us_397 ic_397 20000 38 36 os_397 (c_397_0 :: K_397) c_397_38 = true := by decide +kernel
set_option maxRecDepth 1000000 in
theorem k_397_39 : ckM 230 sp_397 us_397 ic_397 20000 38 36 os_397 (c_397_0 :: K_397) c_397_39 = true := by decide +kernel
set_option maxRecDepth 1000000 in
theorem k_397_40 : ckM 230 sp_397 us_397 ic_397 20000 38 36 os_397 (c_397_0 :: K_397) c_397_40 = true := by decide +kernel
set_option maxRecDepth 1000000 in
theorem k_397_41 : ckM 230 sp_397 us_397 ic_397 20000 38 36 os_397 (c_397_0 :: K_397) c_397_41 = true := by decide +kernel
set_option maxRecDepth 1000000 in
theorem k_397_42 : ckM 230 sp_397 us_397 ic_397 20000 38 36 os_397 (c_397_0 :: K_397) c_397_42 = true := by decide +kernel
set_option maxRecDepth 1000000 in
theorem k_397_43 : ckM 230 sp_397 us_397 ic_397 20000 38 36 os_397 (c_397_0 :: K_397) c_397_43 = true := by decide +kernel
set_option maxRecDepth 1000000 in
theorem k_397_44 : ckM 230 sp_397 us_397 ic_397 20000 38 36 os_397 (c_397_0 :: K_397) c_397_44 = true := by decide +kernel
set_option maxRecDepth 1000000 in
theorem k_397_45 : ckM 230 sp_397 us_397 ic_397 20000 38 36 os_397 (c_397_0 :: K_397) c_397_45 = true := by decide +kernel
set_option maxRecDepth 1000000 in
theorem k_397_46 : ckM 230 sp_397 us_397 ic_397 20000 38 36 os_397 (c_397_0 :: K_397) c_397_46 = true := by decide +kernel
set_option maxRecDepth 1000000 in
theorem k_397_47 : ckM 230 sp_397 us_397 ic_397 20000 38 36 os_397 (c_397_0 :: K_397) c_397_47 = true := by decide +kernel
set_option maxRecDepth 1000000 in
theorem k_397_48 : ckM 230 sp_397 us_397 ic_397 20000 38 36 os_397 (c_397_0 :: K_397) c_397_48 = true := by decide +kernel
set_option maxRecDepth 1000000 in
theorem k_397_49 : ckM 230 sp_397 us_397 ic_397 20000 38 36 os_397 (c_397_0 :: K_397) c_397_49 = true := by decide +kernel
set_option maxRecDepth 1000000 in
theorem k_397_50 : ckM 230 sp_397 us_397 ic_397 20000 38 36 os_397 (c_397_0 :: K_397) c_397_50 = true := by decide +kernel
