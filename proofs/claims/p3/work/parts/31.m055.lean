/-! ===== CONTRACTS, 31.m055 ===== -/
set_option maxRecDepth 1000000 in
theorem k_520_13 : ckM 230 sp_520 us_520 ic_520 20000 36 36 os_520 (c_520_0 :: K_520) c_520_13 = true := by decide +kernel
set_option maxRecDepth 1000000 in
theorem k_520_14 : ckM 230 sp_520 us_520 ic_520 20000 36 36 os_520 (c_520_0 :: K_520) c_520_14 = true := by decide +kernel
set_option maxRecDepth 1000000 in
theorem k_520_15 : ckM 230 sp_520 us_520 ic_520 20000 36 36 os_520 (c_520_0 :: K_520) c_520_15 = true := by decide +kernel
set_option maxRecDepth 1000000 in
theorem k_520_16 : ckM 230 sp_520 us_520 ic_520 20000 36 36 os_520 (c_520_0 :: K_520) c_520_16 = true := by decide +kernel
set_option maxRecDepth 1000000 in
theorem k_520_17 : ckM 230 sp_520 us_520 ic_520 20000 36 36 os_520 (c_520_0 :: K_520) c_520_17 = true := by decide +kernel
set_option maxRecDepth 1000000 in
theorem k_520_18 : ckM 230 sp_520 us_520 ic_520 20000 36 36 os_520 (c_520_0 :: K_520) c_520_18 = true := by decide +kernel
set_option maxRecDepth 1000000 in
theorem k_520_19 : ckM 230 sp_520 us_520 ic_520 20000 36 36 os_520 (c_520_0 :: K_520) c_520_19 = true := by decide +kernel
set_option maxRecDepth 1000000 in
theorem k_520_20 : ckM 230 sp_520 us_520 ic_520 20000 36 36 os_520 (c_520_0 :: K_520) c_520_20 = true := by decide +kernel
set_option maxRecDepth 1000000 in
theorem k_520_21 : ckM 230 sp_520 us_520 ic_520 20000 36 36 os_520 (c_520_0 :: K_520) c_520_21 = true := by decide +kernel
set_option maxRecDepth 1000000 in
theorem k_520_22 : ckM 230 sp_520 us_520 ic_520 20000 36 36 os_520 (c_520_0 :: K_520) c_520_22 = true := by decide +kernel
set_option maxRecDepth 1000000 in
theorem k_520_23 : ckM 230 sp_520 us_520 ic_520 20000 36 36 os_520 (c_520_0 :: K_520) c_520_23 = true := by decide +kernel
set_option maxRecDepth 1000000 in
theorem k_520_24 : ckM 230 sp_520 us_520 ic_520 20000 36 36 os_520 (c_520_0 :: K_520) c_520_24 = true := by decide +kernel
set_option maxRecDepth 1000000 in
theorem k_520_25 : ckM 230 sp_520 us_520 ic_520 20000 36 36 os_520 (c_520_0 :: K_520) c_520_25 = true := by decide +kernel
set_option maxRecDepth 1000000 in
theorem k_520_26 : ckM 230 sp_520 us_520 ic_520 20000 36 36 os_520 (c_520_0 :: K_520) c_520_26 = true := by decide +kernel
set_option maxRecDepth 1000000 in
theorem k_520_27 : ckM 230 sp_520 us_520 ic_520 20000 36 36 os_520 (c_520_0 :: K_520) c_520_27 = true := by decide +kernel
set_option maxRecDepth 1000000 in
theorem k_520_28 : ckM 230 sp_520 us_520 ic_520 20000 36 36 os_520 (c_520_0 :: K_520) c_520_28 = true := by decide +kernel
set_option maxRecDepth 1000000 in
theorem k_520_29 : ckM 230 sp_520 us_520 ic_520 20000 36 36 os_520 (c_520_0 :: K_520) c_520_29 = true := by decide +kernel
set_option maxRecDepth 1000000 in
theorem k_520_30 : ckM 230 sp_520 us_520 ic_520 20000 36 36 os_520 (c_520_0 :: K_520) c_520_30 = true := by decide +kernel
set_option maxRecDepth 1000000 in
theorem k_520_31 : ckM 230 sp_520 us_520 ic_520 20000 36 36 os_520 (c_520_0 :: K_520) c_520_31 = true := by decide +kernel
set_option maxRecDepth 1000000 in
theorem k_520_32 : ckM 230 sp_520 us_520 ic_520 20000 36 36 os_520 (c_520_0 :: K_520) c_520_32 = true := by decide +kernel
set_option maxRecDepth 1000000 in
theorem k_520_33 : ckM 230 sp_520 us_520 ic_520 20000 36 36 os_520 (c_520_0 :: K_520) c_520_33 = true := by decide +kernel
set_option maxRecDepth 1000000 in
theorem k_520_34 : ckM 230 sp_520 us_520 ic_520 20000 36 36 os_520 (c_520_0 :: K_520) c_520_34 = true := by decide +kernel
set_option maxRecDepth 1000000 in
theorem k_520_35 : ckM 230 sp_520 us_520 ic_520 20000 36 36 os_520 (c_520_0 :: K_520) c_520_35 = true := by decide +kernel
set_option maxRecDepth 1000000 in
theorem k_520_36 : ckM 230 sp_520 us_520 ic_520 20000 36 36 os_520 (c_520_0 :: K_520) c_520_36 = true := by decide +kernel
set_option maxRecDepth 1000000 in
theorem k_520_37 : ckM 230 sp_520 us_520 ic_520 20000 36 36 os_520 (c_520_0 :: K_520) c_520_37 = true := by decide +kernel
set_option maxRecDepth 1000000 in
theorem k_520_38 : ckM 230 sp_520 us_520 ic_520 20000 36 36 os_520 (c_520_0 :: K_520) c_520_38 = true := by decide +kernel
set_option maxRecDepth 1000000 in
theorem k_520_39 : ckM 230 sp_520 us_520 ic_520 20000 36 36 os_520 (c_520_0 :: K_520) c_520_39 = true := by decide +kernel
set_option maxRecDepth 1000000 in
theorem k_520_40 : ckM 230 sp_520 us_520 ic_520 20000 36 36 os_520 (c_520_0 :: K_520) c_520_40 = true := by decide +kernel
set_option maxRecDepth 1000000 in
theorem k_520_41 : ckM 230 sp_520 us_520 ic_520 20000 36 36 os_520 (c_520_0 :: K_520) c_520_41 = true := by decide +kernel
set_option maxRecDepth 1000000 in
theorem k_520_42 : ckM 230 sp_520 us_520 ic_520 20000 36 36 os_520 (c_520_0 :: K_520) c_520_42 = true := by decide +kernel
set_option maxRecDepth 1000000 in
theorem k_520_43 : ckM 230 sp_520 us_520 ic_520 20000 36 36 os_520 (c_520_0 :: K_520) c_520_43 = true := by decide +kernel
set_option maxRecDepth 1000000 in
theorem k_520_44 : ckM 230 sp_520 us_520 ic_520 20000 36 36 os_520 (c_520_0 :: K_520) c_520_44 = true := by decide +kernel
set_option maxRecDepth 1000000 in
theorem k_520_45 : ckM 230 sp_520 us_520 ic_520 20000 36 36 os_520 (c_520_0 :: K_520) c_520_45 = true := by decide +kernel
set_option maxRecDepth 1000000 in
theorem k_520_46 : ckM 230 sp_520 us_520 ic_520 20000 36 36 os_520 (c_520_0 :: K_520) c_520_46 = true := by decide +kernel
set_option maxRecDepth 1000000 in
theorem k_520_47 : ckM 230 sp_520 us_520 ic_520 20000 36 36 os_520 (c_520_0 :: K_520) c_520_47 = true := by decide +kernel
set_option maxRecDepth 1000000 in
theorem k_520_48 : ckM 230 sp_520 us_520 ic_520 20000 36 36 os_520 (c_520_0 :: K_520) c_520_48 = true := by decide +kernel
set_option maxRecDepth 1000000 in
theorem k_520_49 : ckM 230 sp_520 us_520 ic_520 20000 36 36 os_520 (c_520_0 :: K_520) c_520_49 = true := by decide +kernel
set_option maxRecDepth 1000000 in
theorem k_520_50 : ckM 230 sp_520 us_520 ic_520 20000 36 36 os_520 (c_520_0 :: K_520) c_520_50 = true := by decide +kernel
set_option maxRecDepth 1000000 in
theorem k_520_51 : ckM 230 sp_520 us_520 ic_520 20000 36 36 os_520 (c_520_0 :: K_520) c_520_51 = true := by decide +kernel
set_option maxRecDepth 1000000 in
theorem k_520_52 : ckM 230 sp_520 us_520 ic_520 20000 36 36 os_520 (c_520_0 :: K_520) c_520_52 = true := by decide +kernel
set_option maxRecDepth 1000000 in
theorem k_520_53 : ckM 230 sp_520 us_520 ic_520 20000 36 36 os_520 (c_520_0 :: K_520) c_520_53 = true := by decide +kernel
set_option maxRecDepth 1000000 in
theorem k_520_54 : ckM 230 sp_520 us_520 ic_520 20000 36 36 os_520 (c_520_0 :: K_520) c_520_54 = true := by decide +kernel
