/-! ===== CONTRACTS, 31.m049 ===== -/
set_option maxRecDepth 1000000 in
theorem k_508_13 : ckM 230 sp_508 us_508 ic_508 20000 36 36 os_508 (c_508_0 :: K_508) c_508_13 = true := by decide +kernel
set_option maxRecDepth 1000000 in
theorem k_508_14 : ckM 230 sp_508 us_508 ic_508 20000 36 36 os_508 (c_508_0 :: K_508) c_508_14 = true := by decide +kernel
set_option maxRecDepth 1000000 in
theorem k_508_15 : ckM 230 sp_508 us_508 ic_508 20000 36 36 os_508 (c_508_0 :: K_508) c_508_15 = true := by decide +kernel
set_option maxRecDepth 1000000 in
theorem k_508_16 : ckM 230 sp_508 us_508 ic_508 20000 36 36 os_508 (c_508_0 :: K_508) c_508_16 = true := by decide +kernel
set_option maxRecDepth 1000000 in
theorem k_508_17 : ckM 230 sp_508 us_508 ic_508 20000 36 36 os_508 (c_508_0 :: K_508) c_508_17 = true := by decide +kernel
set_option maxRecDepth 1000000 in
theorem k_508_18 : ckM 230 sp_508 us_508 ic_508 20000 36 36 os_508 (c_508_0 :: K_508) c_508_18 = true := by decide +kernel
set_option maxRecDepth 1000000 in
theorem k_508_19 : ckM 230 sp_508 us_508 ic_508 20000 36 36 os_508 (c_508_0 :: K_508) c_508_19 = true := by decide +kernel
set_option maxRecDepth 1000000 in
theorem k_508_20 : ckM 230 sp_508 us_508 ic_508 20000 36 36 os_508 (c_508_0 :: K_508) c_508_20 = true := by decide +kernel
set_option maxRecDepth 1000000 in
theorem k_508_21 : ckM 230 sp_508 us_508 ic_508 20000 36 36 os_508 (c_508_0 :: K_508) c_508_21 = true := by decide +kernel
set_option maxRecDepth 1000000 in
theorem k_508_22 : ckM 230 sp_508 us_508 ic_508 20000 36 36 os_508 (c_508_0 :: K_508) c_508_22 = true := by decide +kernel
set_option maxRecDepth 1000000 in
theorem k_508_23 : ckM 230 sp_508 us_508 ic_508 20000 36 36 os_508 (c_508_0 :: K_508) c_508_23 = true := by decide +kernel
set_option maxRecDepth 1000000 in
theorem k_508_24 : ckM 230 sp_508 us_508 ic_508 20000 36 36 os_508 (c_508_0 :: K_508) c_508_24 = true := by decide +kernel
set_option maxRecDepth 1000000 in
theorem k_508_25 : ckM 230 sp_508 us_508 ic_508 20000 36 36 os_508 (c_508_0 :: K_508) c_508_25 = true := by decide +kernel
set_option maxRecDepth 1000000 in
theorem k_508_26 : ckM 230 sp_508 us_508 ic_508 20000 36 36 os_508 (c_508_0 :: K_508) c_508_26 = true := by decide +kernel
set_option maxRecDepth 1000000 in
theorem k_508_27 : ckM 230 sp_508 us_508 ic_508 20000 36 36 os_508 (c_508_0 :: K_508) c_508_27 = true := by decide +kernel
set_option maxRecDepth 1000000 in
theorem k_508_28 : ckM 230 sp_508 us_508 ic_508 20000 36 36 os_508 (c_508_0 :: K_508) c_508_28 = true := by decide +kernel
set_option maxRecDepth 1000000 in
theorem k_508_29 : ckM 230 sp_508 us_508 ic_508 20000 36 36 os_508 (c_508_0 :: K_508) c_508_29 = true := by decide +kernel
set_option maxRecDepth 1000000 in
theorem k_508_30 : ckM 230 sp_508 us_508 ic_508 20000 36 36 os_508 (c_508_0 :: K_508) c_508_30 = true := by decide +kernel
set_option maxRecDepth 1000000 in
theorem k_508_31 : ckM 230 sp_508 us_508 ic_508 20000 36 36 os_508 (c_508_0 :: K_508) c_508_31 = true := by decide +kernel
set_option maxRecDepth 1000000 in
theorem k_508_32 : ckM 230 sp_508 us_508 ic_508 20000 36 36 os_508 (c_508_0 :: K_508) c_508_32 = true := by decide +kernel
set_option maxRecDepth 1000000 in
theorem k_508_33 : ckM 230 sp_508 us_508 ic_508 20000 36 36 os_508 (c_508_0 :: K_508) c_508_33 = true := by decide +kernel
set_option maxRecDepth 1000000 in
theorem k_508_34 : ckM 230 sp_508 us_508 ic_508 20000 36 36 os_508 (c_508_0 :: K_508) c_508_34 = true := by decide +kernel
set_option maxRecDepth 1000000 in
theorem k_508_35 : ckM 230 sp_508 us_508 ic_508 20000 36 36 os_508 (c_508_0 :: K_508) c_508_35 = true := by decide +kernel
set_option maxRecDepth 1000000 in
theorem k_508_36 : ckM 230 sp_508 us_508 ic_508 20000 36 36 os_508 (c_508_0 :: K_508) c_508_36 = true := by decide +kernel
set_option maxRecDepth 1000000 in
theorem k_508_37 : ckM 230 sp_508 us_508 ic_508 20000 36 36 os_508 (c_508_0 :: K_508) c_508_37 = true := by decide +kernel
set_option maxRecDepth 1000000 in
theorem k_508_38 : ckM 230 sp_508 us_508 ic_508 20000 36 36 os_508 (c_508_0 :: K_508) c_508_38 = true := by decide +kernel
set_option maxRecDepth 1000000 in
theorem k_508_39 : ckM 230 sp_508 us_508 ic_508 20000 36 36 os_508 (c_508_0 :: K_508) c_508_39 = true := by decide +kernel
set_option maxRecDepth 1000000 in
theorem k_508_40 : ckM 230 sp_508 us_508 ic_508 20000 36 36 os_508 (c_508_0 :: K_508) c_508_40 = true := by decide +kernel
set_option maxRecDepth 1000000 in
theorem k_508_41 : ckM 230 sp_508 us_508 ic_508 20000 36 36 os_508 (c_508_0 :: K_508) c_508_41 = true := by decide +kernel
set_option maxRecDepth 1000000 in
theorem k_508_42 : ckM 230 sp_508 us_508 ic_508 20000 36 36 os_508 (c_508_0 :: K_508) c_508_42 = true := by decide +kernel
set_option maxRecDepth 1000000 in
theorem k_508_43 : ckM 230 sp_508 us_508 ic_508 20000 36 36 os_508 (c_508_0 :: K_508) c_508_43 = true := by decide +kernel
set_option maxRecDepth 1000000 in
theorem k_508_44 : ckM 230 sp_508 us_508 ic_508 20000 36 36 os_508 (c_508_0 :: K_508) c_508_44 = true := by decide +kernel
set_option maxRecDepth 1000000 in
theorem k_508_45 : ckM 230 sp_508 us_508 ic_508 20000 36 36 os_508 (c_508_0 :: K_508) c_508_45 = true := by decide +kernel
set_option maxRecDepth 1000000 in
theorem k_508_46 : ckM 230 sp_508 us_508 ic_508 20000 36 36 os_508 (c_508_0 :: K_508) c_508_46 = true := by decide +kernel
set_option maxRecDepth 1000000 in
theorem k_508_47 : ckM 230 sp_508 us_508 ic_508 20000 36 36 os_508 (c_508_0 :: K_508) c_508_47 = true := by decide +kernel
set_option maxRecDepth 1000000 in
theorem k_508_48 : ckM 230 sp_508 us_508 ic_508 20000 36 36 os_508 (c_508_0 :: K_508) c_508_48 = true := by decide +kernel
set_option maxRecDepth 1000000 in
theorem k_508_49 : ckM 230 sp_508 us_508 ic_508 20000 36 36 os_508 (c_508_0 :: K_508) c_508_49 = true := by decide +kernel
set_option maxRecDepth 1000000 in
theorem k_508_50 : ckM 230 sp_508 us_508 ic_508 20000 36 36 os_508 (c_508_0 :: K_508) c_508_50 = true := by decide +kernel
set_option maxRecDepth 1000000 in
theorem k_508_51 : ckM 230 sp_508 us_508 ic_508 20000 36 36 os_508 (c_508_0 :: K_508) c_508_51 = true := by decide +kernel
set_option maxRecDepth 1000000 in
theorem k_508_52 : ckM 230 sp_508 us_508 ic_508 20000 36 36 os_508 (c_508_0 :: K_508) c_508_52 = true := by decide +kernel
set_option maxRecDepth 1000000 in
theorem k_508_53 : ckM 230 sp_508 us_508 ic_508 20000 36 36 os_508 (c_508_0 :: K_508) c_508_53 = true := by decide +kernel
set_option maxRecDepth 1000000 in
theorem k_508_54 : ckM 230 sp_508 us_508 ic_508 20000 36 36 os_508 (c_508_0 :: K_508) c_508_54 = true := by decide +kernel
