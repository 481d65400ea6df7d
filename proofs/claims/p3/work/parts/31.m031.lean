/-! ===== CONTRACTS, 31.m031 ===== -/
set_option maxRecDepth 1000000 in
theorem k_472_13 : ckM 230 sp_472 us_472 ic_472 20000 36 36 os_472 (c_472_0 :: K_472) c_472_13 = true := by decide +kernel
set_option maxRecDepth 1000000 in
theorem k_472_14 : ckM 230 sp_472 us_472 ic_472 20000 36 36 os_472 (c_472_0 :: K_472) c_472_14 = true := by decide +kernel
set_option maxRecDepth 1000000 in
theorem k_472_15 : ckM 230 sp_472 us_472 ic_472 20000 36 36 os_472 (c_472_0 :: K_472) c_472_15 = true := by decide +kernel
set_option maxRecDepth 1000000 in
theorem k_472_16 : ckM 230 sp_472 us_472 ic_472 20000 36 36 os_472 (c_472_0 :: K_472) c_472_16 = true := by decide +kernel
set_option maxRecDepth 1000000 in
theorem k_472_17 : ckM 230 sp_472 us_472 ic_472 20000 36 36 os_472 (c_472_0 :: K_472) c_472_17 = true := by decide +kernel
set_option maxRecDepth 1000000 in
theorem k_472_18 : ckM 230 sp_472 us_472 ic_472 20000 36 36 os_472 (c_472_0 :: K_472) c_472_18 = true := by decide +kernel
set_option maxRecDepth 1000000 in
theorem k_472_19 : ckM 230 sp_472 us_472 ic_472 20000 36 36 os_472 (c_472_0 :: K_472) c_472_19 = true := by decide +kernel
set_option maxRecDepth 1000000 in
theorem k_472_20 : ckM 230 sp_472 us_472 ic_472 20000 36 36 os_472 (c_472_0 :: K_472) c_472_20 = true := by decide +kernel
set_option maxRecDepth 1000000 in
theorem k_472_21 : ckM 230 sp_472 us_472 ic_472 20000 36 36 os_472 (c_472_0 :: K_472) c_472_21 = true := by decide +kernel
set_option maxRecDepth 1000000 in
theorem k_472_22 : ckM 230 sp_472 us_472 ic_472 20000 36 36 os_472 (c_472_0 :: K_472) c_472_22 = true := by decide +kernel
set_option maxRecDepth 1000000 in
theorem k_472_23 : ckM 230 sp_472 us_472 ic_472 20000 36 36 os_472 (c_472_0 :: K_472) c_472_23 = true := by decide +kernel
set_option maxRecDepth 1000000 in
theorem k_472_24 : ckM 230 sp_472 us_472 ic_472 20000 36 36 os_472 (c_472_0 :: K_472) c_472_24 = true := by decide +kernel
set_option maxRecDepth 1000000 in
theorem k_472_25 : ckM 230 sp_472 us_472 ic_472 20000 36 36 os_472 (c_472_0 :: K_472) c_472_25 = true := by decide +kernel
set_option maxRecDepth 1000000 in
theorem k_472_26 : ckM 230 sp_472 us_472 ic_472 20000 36 36 os_472 (c_472_0 :: K_472) c_472_26 = true := by decide +kernel
set_option maxRecDepth 1000000 in
theorem k_472_27 : ckM 230 sp_472 us_472 ic_472 20000 36 36 os_472 (c_472_0 :: K_472) c_472_27 = true := by decide +kernel
set_option maxRecDepth 1000000 in
theorem k_472_28 : ckM 230 sp_472 us_472 ic_472 20000 36 36 os_472 (c_472_0 :: K_472) c_472_28 = true := by decide +kernel
set_option maxRecDepth 1000000 in
theorem k_472_29 : ckM 230 sp_472 us_472 ic_472 20000 36 36 os_472 (c_472_0 :: K_472) c_472_29 = true := by decide +kernel
set_option maxRecDepth 1000000 in
theorem k_472_30 : ckM 230 sp_472 us_472 ic_472 20000 36 36 os_472 (c_472_0 :: K_472) c_472_30 = true := by decide +kernel
set_option maxRecDepth 1000000 in
theorem k_472_31 : ckM 230 sp_472 us_472 ic_472 20000 36 36 os_472 (c_472_0 :: K_472) c_472_31 = true := by decide +kernel
set_option maxRecDepth 1000000 in
theorem k_472_32 : ckM 230 sp_472 us_472 ic_472 20000 36 36 os_472 (c_472_0 :: K_472) c_472_32 = true := by decide +kernel
set_option maxRecDepth 1000000 in
theorem k_472_33 : ckM 230 sp_472 us_472 ic_472 20000 36 36 os_472 (c_472_0 :: K_472) c_472_33 = true := by decide +kernel
set_option maxRecDepth 1000000 in
theorem k_472_34 : ckM 230 sp_472 us_472 ic_472 20000 36 36 os_472 (c_472_0 :: K_472) c_472_34 = true := by decide +kernel
set_option maxRecDepth 1000000 in
theorem k_472_35 : ckM 230 sp_472 us_472 ic_472 20000 36 36 os_472 (c_472_0 :: K_472) c_472_35 = true := by decide +kernel
set_option maxRecDepth 1000000 in
theorem k_472_36 : ckM 230 sp_472 us_472 ic_472 20000 36 36 os_472 (c_472_0 :: K_472) c_472_36 = true := by decide +kernel
set_option maxRecDepth 1000000 in
theorem k_472_37 : ckM 230 sp_472 us_472 ic_472 20000 36 36 os_472 (c_472_0 :: K_472) c_472_37 = true := by decide +kernel
set_option maxRecDepth 1000000 in
theorem k_472_38 : ckM 230 sp_472 us_472 ic_472 20000 36 36 os_472 (c_472_0 :: K_472) c_472_38 = true := by decide +kernel
set_option maxRecDepth 1000000 in
theorem k_472_39 : ckM 230 sp_472 us_472 ic_472 20000 36 36 os_472 (c_472_0 :: K_472) c_472_39 = true := by decide +kernel
set_option maxRecDepth 1000000 in
theorem k_472_40 : ckM 230 sp_472 us_472 ic_472 20000 36 36 os_472 (c_472_0 :: K_472) c_472_40 = true := by decide +kernel
set_option maxRecDepth 1000000 in
theorem k_472_41 : ckM 230 sp_472 us_472 ic_472 20000 36 36 os_472 (c_472_0 :: K_472) c_472_41 = true := by decide +kernel
set_option maxRecDepth 1000000 in
theorem k_472_42 : ckM 230 sp_472 us_472 ic_472 20000 36 36 os_472 (c_472_0 :: K_472) c_472_42 = true := by decide +kernel
set_option maxRecDepth 1000000 in
theorem k_472_43 : ckM 230 sp_472 us_472 ic_472 20000 36 36 os_472 (c_472_0 :: K_472) c_472_43 = true := by decide +kernel
set_option maxRecDepth 1000000 in
theorem k_472_44 : ckM 230 sp_472 us_472 ic_472 20000 36 36 os_472 (c_472_0 :: K_472) c_472_44 = true := by decide +kernel
set_option maxRecDepth 1000000 in
theorem k_472_45 : ckM 230 sp_472 us_472 ic_472 20000 36 36 os_472 (c_472_0 :: K_472) c_472_45 = true := by decide +kernel
set_option maxRecDepth 1000000 in
theorem k_472_46 : ckM 230 sp_472 us_472 ic_472 20000 36 36 os_472 (c_472_0 :: K_472) c_472_46 = true := by decide +kernel
set_option maxRecDepth 1000000 in
theorem k_472_47 : ckM 230 sp_472 us_472 ic_472 20000 36 36 os_472 (c_472_0 :: K_472) c_472_47 = true := by decide +kernel
set_option maxRecDepth 1000000 in
theorem k_472_48 : ckM 230 sp_472 us_472 ic_472 20000 36 36 os_472 (c_472_0 :: K_472) c_472_48 = true := by decide +kernel
set_option maxRecDepth 1000000 in
theorem k_472_49 : ckM 230 sp_472 us_472 ic_472 20000 36 36 os_472 (c_472_0 :: K_472) c_472_49 = true := by decide +kernel
set_option maxRecDepth 1000000 in
theorem k_472_50 : ckM 230 sp_472 us_472 ic_472 20000 36 36 os_472 (c_472_0 :: K_472) c_472_50 = true := by decide +kernel
set_option maxRecDepth 1000000 in
theorem k_472_51 : ckM 230 sp_472 us_472 ic_472 20000 36 36 os_472 (c_472_0 :: K_472) c_472_51 = true := by decide +kernel
set_option maxRecDepth 1000000 in
theorem k_472_52 : ckM 230 sp_472 us_472 ic_472 20000 36 36 os_472 (c_472_0 :: K_472) c_472_52 = true := by decide +kernel
set_option maxRecDepth 1000000 in
theorem k_472_53 : ckM 230 sp_472 us_472 ic_472 20000 36 36 os_472 (c_472_0 :: K_472) c_472_53 = true := by decide +kernel
set_option maxRecDepth 1000000 in
theorem k_472_54 : ckM 230 sp_472 us_472 ic_472 20000 36 36 os_472 (c_472_0 :: K_472) c_472_54 = true := by decide +kernel
