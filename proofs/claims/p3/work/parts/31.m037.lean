/-! ===== CONTRACTS, 31.m037 ===== -/
set_option maxRecDepth 1000000 in
theorem k_484_13 : ckM 230 sp_484 us_484 ic_484 20000 36 36 os_484 (c_484_0 :: K_484) c_484_13 = true := by decide +kernel
set_option maxRecDepth 1000000 in
theorem k_484_14 : ckM 230 sp_484 us_484 ic_484 20000 36 36 os_484 (c_484_0 :: K_484) c_484_14 = true := by decide +kernel
set_option maxRecDepth 1000000 in
theorem k_484_15 : ckM 230 sp_484 us_484 ic_484 20000 36 36 os_484 (c_484_0 :: K_484) c_484_15 = true := by decide +kernel
set_option maxRecDepth 1000000 in
theorem k_484_16 : ckM 230 sp_484 us_484 ic_484 20000 36 36 os_484 (c_484_0 :: K_484) c_484_16 = true := by decide +kernel
set_option maxRecDepth 1000000 in
theorem k_484_17 : ckM 230 sp_484 us_484 ic_484 20000 36 36 os_484 (c_484_0 :: K_484) c_484_17 = true := by decide +kernel
set_option maxRecDepth 1000000 in
theorem k_484_18 : ckM 230 sp_484 us_484 ic_484 20000 36 36 os_484 (c_484_0 :: K_484) c_484_18 = true := by decide +kernel
set_option maxRecDepth 1000000 in
theorem k_484_19 : ckM 230 sp_484 us_484 ic_484 20000 36 36 os_484 (c_484_0 :: K_484) c_484_19 = true := by decide +kernel
set_option maxRecDepth 1000000 in
theorem k_484_20 : ckM 230 sp_484 us_484 ic_484 20000 36 36 os_484 (c_484_0 :: K_484) c_484_20 = true := by decide +kernel
set_option maxRecDepth 1000000 in
theorem k_484_21 : ckM 230 sp_484 us_484 ic_484 20000 36 36 os_484 (c_484_0 :: K_484) c_484_21 = true := by decide +kernel
set_option maxRecDepth 1000000 in
theorem k_484_22 : ckM 230 sp_484 us_484 ic_484 20000 36 36 os_484 (c_484_0 :: K_484) c_484_22 = true := by decide +kernel
set_option maxRecDepth 1000000 in
theorem k_484_23 : ckM 230 sp_484 us_484 ic_484 20000 36 36 os_484 (c_484_0 :: K_484) c_484_23 = true := by decide +kernel
set_option maxRecDepth 1000000 in
theorem k_484_24 : ckM 230 sp_484 us_484 ic_484 20000 36 36 os_484 (c_484_0 :: K_484) c_484_24 = true := by decide +kernel
set_option maxRecDepth 1000000 in
theorem k_484_25 : ckM 230 sp_484 us_484 ic_484 20000 36 36 os_484 (c_484_0 :: K_484) c_484_25 = true := by decide +kernel
set_option maxRecDepth 1000000 in
theorem k_484_26 : ckM 230 sp_484 us_484 ic_484 20000 36 36 os_484 (c_484_0 :: K_484) c_484_26 = true := by decide +kernel
set_option maxRecDepth 1000000 in
theorem k_484_27 : ckM 230 sp_484 us_484 ic_484 20000 36 36 os_484 (c_484_0 :: K_484) c_484_27 = true := by decide +kernel
set_option maxRecDepth 1000000 in
theorem k_484_28 : ckM 230 sp_484 us_484 ic_484 20000 36 36 os_484 (c_484_0 :: K_484) c_484_28 = true := by decide +kernel
set_option maxRecDepth 1000000 in
theorem k_484_29 : ckM 230 sp_484 us_484 ic_484 20000 36 36 os_484 (c_484_0 :: K_484) c_484_29 = true := by decide +kernel
set_option maxRecDepth 1000000 in
theorem k_484_30 : ckM 230 sp_484 us_484 ic_484 20000 36 36 os_484 (c_484_0 :: K_484) c_484_30 = true := by decide +kernel
set_option maxRecDepth 1000000 in
theorem k_484_31 : ckM 230 sp_484 us_484 ic_484 20000 36 36 os_484 (c_484_0 :: K_484) c_484_31 = true := by decide +kernel
set_option maxRecDepth 1000000 in
theorem k_484_32 : ckM 230 sp_484 us_484 ic_484 20000 36 36 os_484 (c_484_0 :: K_484) c_484_32 = true := by decide +kernel
set_option maxRecDepth 1000000 in
theorem k_484_33 : ckM 230 sp_484 us_484 ic_484 20000 36 36 os_484 (c_484_0 :: K_484) c_484_33 = true := by decide +kernel
set_option maxRecDepth 1000000 in
theorem k_484_34 : ckM 230 sp_484 us_484 ic_484 20000 36 36 os_484 (c_484_0 :: K_484) c_484_34 = true := by decide +kernel
set_option maxRecDepth 1000000 in
theorem k_484_35 : ckM 230 sp_484 us_484 ic_484 20000 36 36 os_484 (c_484_0 :: K_484) c_484_35 = true := by decide +kernel
set_option maxRecDepth 1000000 in
theorem k_484_36 : ckM 230 sp_484 us_484 ic_484 20000 36 36 os_484 (c_484_0 :: K_484) c_484_36 = true := by decide +kernel
set_option maxRecDepth 1000000 in
theorem k_484_37 : ckM 230 sp_484 us_484 ic_484 20000 36 36 os_484 (c_484_0 :: K_484) c_484_37 = true := by decide +kernel
set_option maxRecDepth 1000000 in
theorem k_484_38 : ckM 230 sp_484 us_484 ic_484 20000 36 36 os_484 (c_484_0 :: K_484) c_484_38 = true := by decide +kernel
set_option maxRecDepth 1000000 in
theorem k_484_39 : ckM 230 sp_484 us_484 ic_484 20000 36 36 os_484 (c_484_0 :: K_484) c_484_39 = true := by decide +kernel
set_option maxRecDepth 1000000 in
theorem k_484_40 : ckM 230 sp_484 us_484 ic_484 20000 36 36 os_484 (c_484_0 :: K_484) c_484_40 = true := by decide +kernel
set_option maxRecDepth 1000000 in
theorem k_484_41 : ckM 230 sp_484 us_484 ic_484 20000 36 36 os_484 (c_484_0 :: K_484) c_484_41 = true := by decide +kernel
set_option maxRecDepth 1000000 in
theorem k_484_42 : ckM 230 sp_484 us_484 ic_484 20000 36 36 os_484 (c_484_0 :: K_484) c_484_42 = true := by decide +kernel
set_option maxRecDepth 1000000 in
theorem k_484_43 : ckM 230 sp_484 us_484 ic_484 20000 36 36 os_484 (c_484_0 :: K_484) c_484_43 = true := by decide +kernel
set_option maxRecDepth 1000000 in
theorem k_484_44 : ckM 230 sp_484 us_484 ic_484 20000 36 36 os_484 (c_484_0 :: K_484) c_484_44 = true := by decide +kernel
set_option maxRecDepth 1000000 in
theorem k_484_45 : ckM 230 sp_484 us_484 ic_484 20000 36 36 os_484 (c_484_0 :: K_484) c_484_45 = true := by decide +kernel
set_option maxRecDepth 1000000 in
theorem k_484_46 : ckM 230 sp_484 us_484 ic_484 20000 36 36 os_484 (c_484_0 :: K_484) c_484_46 = true := by decide +kernel
set_option maxRecDepth 1000000 in
theorem k_484_47 : ckM 230 sp_484 us_484 ic_484 20000 36 36 os_484 (c_484_0 :: K_484) c_484_47 = true := by decide +kernel
set_option maxRecDepth 1000000 in
theorem k_484_48 : ckM 230 sp_484 us_484 ic_484 20000 36 36 os_484 (c_484_0 :: K_484) c_484_48 = true := by decide +kernel
set_option maxRecDepth 1000000 in
theorem k_484_49 : ckM 230 sp_484 us_484 ic_484 20000 36 36 os_484 (c_484_0 :: K_484) c_484_49 = true := by decide +kernel
set_option maxRecDepth 1000000 in
theorem k_484_50 : ckM 230 sp_484 us_484 ic_484 20000 36 36 os_484 (c_484_0 :: K_484) c_484_50 = true := by decide +kernel
set_option maxRecDepth 1000000 in
theorem k_484_51 : ckM 230 sp_484 us_484 ic_484 20000 36 36 os_484 (c_484_0 :: K_484) c_484_51 = true := by decide +kernel
set_option maxRecDepth 1000000 in
theorem k_484_52 : ckM 230 sp_484 us_484 ic_484 20000 36 36 os_484 (c_484_0 :: K_484) c_484_52 = true := by decide +kernel
set_option maxRecDepth 1000000 in
theorem k_484_53 : ckM 230 sp_484 us_484 ic_484 20000 36 36 os_484 (c_484_0 :: K_484) c_484_53 = true := by decide +kernel
set_option maxRecDepth 1000000 in
theorem k_484_54 : ckM 230 sp_484 us_484 ic_484 20000 36 36 os_484 (c_484_0 :: K_484) c_484_54 = true := by decide +kernel
