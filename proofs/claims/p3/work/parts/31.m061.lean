/-! ===== CONTRACTS, 31.m061 ===== -/
set_option maxRecDepth 1000000 in
theorem k_532_13 : ckM 230 sp_532 us_532 ic_532 20000 36 36 os_532 (c_532_0 :: K_532) c_532_13 = true := by decide +kernel
set_option maxRecDepth 1000000 in
theorem k_532_14 : ckM 230 sp_532 us_532 ic_532 20000 36 36 os_532 (c_532_0 :: K_532) c_532_14 = true := by decide +kernel
set_option maxRecDepth 1000000 in
theorem k_532_15 : ckM 230 sp_532 us_532 ic_532 20000 36 36 os_532 (c_532_0 :: K_532) c_532_15 = true := by decide +kernel
set_option maxRecDepth 1000000 in
theorem k_532_16 : ckM 230 sp_532 us_532 ic_532 20000 36 36 os_532 (c_532_0 :: K_532) c_532_16 = true := by decide +kernel
set_option maxRecDepth 1000000 in
theorem k_532_17 : ckM 230 sp_532 us_532 ic_532 20000 36 36 os_532 (c_532_0 :: K_532) c_532_17 = true := by decide +kernel
set_option maxRecDepth 1000000 in
theorem k_532_18 : ckM 230 sp_532 us_532 ic_532 20000 36 36 os_532 (c_532_0 :: K_532) c_532_18 = true := by decide +kernel
set_option maxRecDepth 1000000 in
theorem k_532_19 : ckM 230 sp_532 us_532 ic_532 20000 36 36 os_532 (c_532_0 :: K_532) c_532_19 = true := by decide +kernel
set_option maxRecDepth 1000000 in
theorem k_532_20 : ckM 230 sp_532 us_532 ic_532 20000 36 36 os_532 (c_532_0 :: K_532) c_532_20 = true := by decide +kernel
set_option maxRecDepth 1000000 in
theorem k_532_21 : ckM 230 sp_532 us_532 ic_532 20000 36 36 os_532 (c_532_0 :: K_532) c_532_21 = true := by decide +kernel
set_option maxRecDepth 1000000 in
theorem k_532_22 : ckM 230 sp_532 us_532 ic_532 20000 36 36 os_532 (c_532_0 :: K_532) c_532_22 = true := by decide +kernel
set_option maxRecDepth 1000000 in
theorem k_532_23 : ckM 230 sp_532 us_532 ic_532 20000 36 36 os_532 (c_532_0 :: K_532) c_532_23 = true := by decide +kernel
set_option maxRecDepth 1000000 in
theorem k_532_24 : ckM 230 sp_532 us_532 ic_532 20000 36 36 os_532 (c_532_0 :: K_532) c_532_24 = true := by decide +kernel
set_option maxRecDepth 1000000 in
theorem k_532_25 : ckM 230 sp_532 us_532 ic_532 20000 36 36 os_532 (c_532_0 :: K_532) c_532_25 = true := by decide +kernel
set_option maxRecDepth 1000000 in
theorem k_532_26 : ckM 230 sp_532 us_532 ic_532 20000 36 36 os_532 (c_532_0 :: K_532) c_532_26 = true := by decide +kernel
set_option maxRecDepth 1000000 in
theorem k_532_27 : ckM 230 sp_532 us_532 ic_532 20000 36 36 os_532 (c_532_0 :: K_532) c_532_27 = true := by decide +kernel
set_option maxRecDepth 1000000 in
theorem k_532_28 : ckM 230 sp_532 us_532 ic_532 20000 36 36 os_532 (c_532_0 :: K_532) c_532_28 = true := by decide +kernel
set_option maxRecDepth 1000000 in
theorem k_532_29 : ckM 230 sp_532 us_532 ic_532 20000 36 36 os_532 (c_532_0 :: K_532) c_532_29 = true := by decide +kernel
set_option maxRecDepth 1000000 in
theorem k_532_30 : ckM 230 sp_532 us_532 ic_532 20000 36 36 os_532 (c_532_0 :: K_532) c_532_30 = true := by decide +kernel
set_option maxRecDepth 1000000 in
theorem k_532_31 : ckM 230 sp_532 us_532 ic_532 20000 36 36 os_532 (c_532_0 :: K_532) c_532_31 = true := by decide +kernel
set_option maxRecDepth 1000000 in
theorem k_532_32 : ckM 230 sp_532 us_532 ic_532 20000 36 36 os_532 (c_532_0 :: K_532) c_532_32 = true := by decide +kernel
set_option maxRecDepth 1000000 in
theorem k_532_33 : ckM 230 sp_532 us_532 ic_532 20000 36 36 os_532 (c_532_0 :: K_532) c_532_33 = true := by decide +kernel
set_option maxRecDepth 1000000 in
theorem k_532_34 : ckM 230 sp_532 us_532 ic_532 20000 36 36 os_532 (c_532_0 :: K_532) c_532_34 = true := by decide +kernel
set_option maxRecDepth 1000000 in
theorem k_532_35 : ckM 230 sp_532 us_532 ic_532 20000 36 36 os_532 (c_532_0 :: K_532) c_532_35 = true := by decide +kernel
set_option maxRecDepth 1000000 in
theorem k_532_36 : ckM 230 sp_532 us_532 ic_532 20000 36 36 os_532 (c_532_0 :: K_532) c_532_36 = true := by decide +kernel
set_option maxRecDepth 1000000 in
theorem k_532_37 : ckM 230 sp_532 us_532 ic_532 20000 36 36 os_532 (c_532_0 :: K_532) c_532_37 = true := by decide +kernel
set_option maxRecDepth 1000000 in
theorem k_532_38 : ckM 230 sp_532 us_532 ic_532 20000 36 36 os_532 (c_532_0 :: K_532) c_532_38 = true := by decide +kernel
set_option maxRecDepth 1000000 in
theorem k_532_39 : ckM 230 sp_532 us_532 ic_532 20000 36 36 os_532 (c_532_0 :: K_532) c_532_39 = true := by decide +kernel
set_option maxRecDepth 1000000 in
theorem k_532_40 : ckM 230 sp_532 us_532 ic_532 20000 36 36 os_532 (c_532_0 :: K_532) c_532_40 = true := by decide +kernel
set_option maxRecDepth 1000000 in
theorem k_532_41 : ckM 230 sp_532 us_532 ic_532 20000 36 36 os_532 (c_532_0 :: K_532) c_532_41 = true := by decide +kernel
set_option maxRecDepth 1000000 in
theorem k_532_42 : ckM 230 sp_532 us_532 ic_532 20000 36 36 os_532 (c_532_0 :: K_532) c_532_42 = true := by decide +kernel
set_option maxRecDepth 1000000 in
theorem k_532_43 : ckM 230 sp_532 us_532 ic_532 20000 36 36 os_532 (c_532_0 :: K_532) c_532_43 = true := by decide +kernel
set_option maxRecDepth 1000000 in
theorem k_532_44 : ckM 230 sp_532 us_532 ic_532 20000 36 36 os_532 (c_532_0 :: K_532) c_532_44 = true := by decide +kernel
set_option maxRecDepth 1000000 in
theorem k_532_45 : ckM 230 sp_532 us_532 ic_532 20000 36 36 os_532 (c_532_0 :: K_532) c_532_45 = true := by decide +kernel
set_option maxRecDepth 1000000 in
theorem k_532_46 : ckM 230 sp_532 us_532 ic_532 20000 36 36 os_532 (c_532_0 :: K_532) c_532_46 = true := by decide +kernel
set_option maxRecDepth 1000000 in
theorem k_532_47 : ckM 230 sp_532 us_532 ic_532 20000 36 36 os_532 (c_532_0 :: K_532) c_532_47 = true := by decide +kernel
set_option maxRecDepth 1000000 in
theorem k_532_48 : ckM 230 sp_532 us_532 ic_532 20000 36 36 os_532 (c_532_0 :: K_532) c_532_48 = true := by decide +kernel
set_option maxRecDepth 1000000 in
theorem k_532_49 : ckM 230 sp_532 us_532 ic_532 20000 36 36 os_532 (c_532_0 :: K_532) c_532_49 = true := by decide +kernel
set_option maxRecDepth 1000000 in
theorem k_532_50 : ckM 230 sp_532 us_532 ic_532 20000 36 36 os_532 (c_532_0 :: K_532) c_532_50 = true := by decide +kernel
set_option maxRecDepth 1000000 in
theorem k_532_51 : ckM 230 sp_532 us_532 ic_532 20000 36 36 os_532 (c_532_0 :: K_532) c_532_51 = true := by decide +kernel
set_option maxRecDepth 1000000 in
theorem k_532_52 : ckM 230 sp_532 us_532 ic_532 20000 36 36 os_532 (c_532_0 :: K_532) c_532_52 = true := by decide +kernel
set_option maxRecDepth 1000000 in
theorem k_532_53 : ckM 230 sp_532 us_532 ic_532 20000 36 36 os_532 (c_532_0 :: K_532) c_532_53 = true := by decide +kernel
set_option maxRecDepth 1000000 in
theorem k_532_54 : ckM 230 sp_532 us_532 ic_532 20000 36 36 os_532 (c_532_0 :: K_532) c_532_54 = true := by decide +kernel
