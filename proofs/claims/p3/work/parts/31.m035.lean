/-! ===== CONTRACTS, 31.m035 ===== -/
set_option maxRecDepth 1000000 in
theorem k_519_1 : ckM 230 sp_519 us_519 ic_519 20000 36 36 os_519 (c_519_0 :: K_519) c_519_1 = true := by decide +kernel
set_option maxRecDepth 1000000 in
theorem k_519_2 : ckM 230 sp_519 us_519 ic_519 20000 36 36 os_519 (c_519_0 :: K_519) c_519_2 = true := by decide +kernel
set_option maxRecDepth 1000000 in
theorem k_519_3 : ckM 230 sp_519 us_519 ic_519 20000 36 36 os_519 (c_519_0 :: K_519) c_519_3 = true := by decide +kernel
set_option maxRecDepth 1000000 in
theorem k_519_4 : ckM 230 sp_519 us_519 ic_519 20000 36 36 os_519 (c_519_0 :: K_519) c_519_4 = true := by decide +kernel
set_option maxRecDepth 1000000 in
theorem k_519_5 : ckM 230 sp_519 us_519 ic_519 20000 36 36 os_519 (c_519_0 :: K_519) c_519_5 = true := by decide +kernel
set_option maxRecDepth 1000000 in
theorem k_519_6 : ckM 230 sp_519 us_519 ic_519 20000 36 36 os_519 (c_519_0 :: K_519) c_519_6 = true := by decide +kernel
set_option maxRecDepth 1000000 in
theorem k_519_7 : ckM 230 sp_519 us_519 ic_519 20000 36 36 os_519 (c_519_0 :: K_519) c_519_7 = true := by decide +kernel
set_option maxRecDepth 1000000 in
theorem k_519_8 : ckM 230 sp_519 us_519 ic_519 20000 36 36 os_519 (c_519_0 :: K_519) c_519_8 = true := by decide +kernel
set_option maxRecDepth 1000000 in
theorem k_519_9 : ckM 230 sp_519 us_519 ic_519 20000 36 36 os_519 (c_519_0 :: K_519) c_519_9 = true := by decide +kernel
set_option maxRecDepth 1000000 in
theorem k_519_10 : ckM 230 sp_519 us_519 ic_519 20000 36 36 os_519 (c_519_0 :: K_519) c_519_10 = true := by decide +kernel
set_option maxRecDepth 1000000 in
theorem k_519_11 : ckM 230 sp_519 us_519 ic_519 20000 36 36 os_519 (c_519_0 :: K_519) c_519_11 = true := by decide +kernel
set_option maxRecDepth 1000000 in
theorem k_519_12 : ckM 230 sp_519 us_519 ic_519 20000 36 36 os_519 (c_519_0 :: K_519) c_519_12 = true := by decide +kernel
set_option maxRecDepth 1000000 in
theorem k_519_13 : ckM 230 sp_519 us_519 ic_519 20000 36 36 os_519 (c_519_0 :: K_519) c_519_13 = true := by decide +kernel
set_option maxRecDepth 1000000 in
theorem k_519_14 : ckM 230 sp_519 us_519 ic_519 20000 36 36 os_519 (c_519_0 :: K_519) c_519_14 = true := by decide +kernel
set_option maxRecDepth 1000000 in
theorem k_519_15 : ckM 230 sp_519 us_519 ic_519 20000 36 36 os_519 (c_519_0 :: K_519) c_519_15 = true := by decide +kernel
set_option maxRecDepth 1000000 in
theorem k_519_16 : ckM 230 sp_519 us_519 ic_519 20000 36 36 os_519 (c_519_0 :: K_519) c_519_16 = true := by decide +kernel
set_option maxRecDepth 1000000 in
theorem k_519_17 : ckM 230 sp_519 us_519 ic_519 20000 36 36 os_519 (c_519_0 :: K_519) c_519_17 = true := by decide +kernel
set_option maxRecDepth 1000000 in
theorem k_519_18 : ckM 230 sp_519 us_519 ic_519 20000 36 36 os_519 (c_519_0 :: K_519) c_519_18 = true := by decide +kernel
set_option maxRecDepth 1000000 in
theorem k_519_19 : ckM 230 sp_519 us_519 ic_519 20000 36 36 os_519 (c_519_0 :: K_519) c_519_19 = true := by decide +kernel
set_option maxRecDepth 1000000 in
theorem k_519_20 : ckM 230 sp_519 us_519 ic_519 20000 36 36 os_519 (c_519_0 :: K_519) c_519_20 = true := by decide +kernel
set_option maxRecDepth 1000000 in
theorem k_519_21 : ckM 230 sp_519 us_519 ic_519 20000 36 36 os_519 (c_519_0 :: K_519) c_519_21 = true := by decide +kernel
set_option maxRecDepth 1000000 in
theorem k_519_22 : ckM 230 sp_519 us_519 ic_519 20000 36 36 os_519 (c_519_0 :: K_519) c_519_22 = true := by decide +kernel
set_option maxRecDepth 1000000 in
theorem k_519_23 : ckM 230 sp_519 us_519 ic_519 20000 36 36 os_519 (c_519_0 :: K_519) c_519_23 = true := by decide +kernel
set_option maxRecDepth 1000000 in
theorem k_519_24 : ckM 230 sp_519 us_519 ic_519 20000 36 36 os_519 (c_519_0 :: K_519) c_519_24 = true := by decide +kernel
set_option maxRecDepth 1000000 in
theorem k_519_25 : ckM 230 sp_519 us_519 ic_519 20000 36 36 os_519 (c_519_0 :: K_519) c_519_25 = true := by decide +kernel
set_option maxRecDepth 1000000 in
theorem k_519_26 : ckM 230 sp_519 us_519 ic_519 20000 36 36 os_519 (c_519_0 :: K_519) c_519_26 = true := by decide +kernel
set_option maxRecDepth 1000000 in
theorem k_519_27 : ckM 230 sp_519 us_519 ic_519 20000 36 36 os_519 (c_519_0 :: K_519) c_519_27 = true := by decide +kernel
set_option maxRecDepth 1000000 in
theorem k_519_28 : ckM 230 sp_519 us_519 ic_519 20000 36 36 os_519 (c_519_0 :: K_519) c_519_28 = true := by decide +kernel
set_option maxRecDepth 1000000 in
theorem k_519_29 : ckM 230 sp_519 us_519 ic_519 20000 36 36 os_519 (c_519_0 :: K_519) c_519_29 = true := by decide +kernel
set_option maxRecDepth 1000000 in
theorem k_519_30 : ckM 230 sp_519 us_519 ic_519 20000 36 36 os_519 (c_519_0 :: K_519) c_519_30 = true := by decide +kernel
set_option maxRecDepth 1000000 in
theorem k_519_31 : ckM 230 sp_519 us_519 ic_519 20000 36 36 os_519 (c_519_0 :: K_519) c_519_31 = true := by decide +kernel
set_option maxRecDepth 1000000 in
theorem k_519_32 : ckM 230 sp_519 us_519 ic_519 20000 36 36 os_519 (c_519_0 :: K_519) c_519_32 = true := by decide +kernel
set_option maxRecDepth 1000000 in
theorem k_519_33 : ckM 230 sp_519 us_519 ic_519 20000 36 36 os_519 (c_519_0 :: K_519) c_519_33 = true := by decide +kernel
set_option maxRecDepth 1000000 in
theorem k_519_34 : ckM 230 sp_519 us_519 ic_519 20000 36 36 os_519 (c_519_0 :: K_519) c_519_34 = true := by decide +kernel
set_option maxRecDepth 1000000 in
theorem k_519_35 : ckM 230 sp_519 us_519 ic_519 20000 36 36 os_519 (c_519_0 :: K_519) c_519_35 = true := by decide +kernel
set_option maxRecDepth 1000000 in
theorem k_519_36 : ckM 230 sp_519 us_519 ic_519 20000 36 36 os_519 (c_519_0 :: K_519) c_519_36 = true := by decide +kernel
set_option maxRecDepth 1000000 in
theorem k_519_37 : ckM 230 sp_519 us_519 ic_519 20000 36 36 os_519 (c_519_0 :: K_519) c_519_37 = true := by decide +kernel
set_option maxRecDepth 1000000 in
theorem k_519_38 : ckM 230 sp_519 us_519 ic_519 20000 36 36 os_519 (c_519_0 :: K_519) c_519_38 = true := by decide +kernel
set_option maxRecDepth 1000000 in
theorem k_519_39 : ckM 230 sp_519 us_519 ic_519 20000 36 36 os_519 (c_519_0 :: K_519) c_519_39 = true := by decide +kernel
set_option maxRecDepth 1000000 in
theorem k_519_40 : ckM 230 sp_519 us_519 ic_519 20000 36 36 os_519 (c_519_0 :: K_519) c_519_40 = true := by decide +kernel
set_option maxRecDepth 1000000 in
theorem k_519_41 : ckM 230 sp_519 us_519 ic_519 20000 36 36 os_519 (c_519_0 :: K_519) c_519_41 = true := by decide +kernel
set_option maxRecDepth 1000000 in
theorem k_519_42 : ckM 230 sp_519 us_519 ic_519 20000 36 36 os_519 (c_519_0 :: K_519) c_519_42 = true := by decide +kernel
set_option maxRecDepth 1000000 in
theorem k_519_43 : ckM 230 sp_519 us_519 ic_519 20000 36 36 os_519 (c_519_0 :: K_519) c_519_43 = true := by decide +kernel
set_option maxRecDepth 1000000 in
theorem k_519_44 : ckM 230 sp_519 us_519 ic_519 20000 36 36 os_519 (c_519_0 :: K_519) c_519_44 = true := by decide +kernel
set_option maxRecDepth 1000000 in
theorem k_519_45 : ckM 230 sp_519 us_519 ic_519 20000 36 36 os_519 (c_519_0 :: K_519) c_519_45 = true := by decide +kernel
set_option maxRecDepth 1000000 in
theorem k_519_46 : ckM 230 sp_519 us_519 ic_519 20000 36 36 os_519 (c_519_0 :: K_519) c_519_46 = true := by decide +kernel
set_option maxRecDepth 1000000 in
theorem k_519_47 : ckM 230 sp_519 us_519 ic_519 20000 36 36 os_519 (c_519_0 :: K_519) c_519_47 = true := by decide +kernel
set_option maxRecDepth 1000000 in
theorem k_519_48 : ckM 230 sp_519 us_519 ic_519 20000 36 36 os_519 (c_519_0 :: K_519) c_519_48 = true := by decide +kernel
set_option maxRecDepth 1000000 in
theorem k_519_49 : ckM 230 sp_519 us_519 ic_519 20000 36 36 os_519 (c_519_0 :: K_519) c_519_49 = true := by decide +kernel
set_option maxRecDepth 1000000 in
theorem k_519_50 : ckM 230 sp_519 us_519 ic_519 20000 36 36 os_519 (c_519_0 :: K_519) c_519_50 = true := by decide +kernel
set_option maxRecDepth 1000000 in
theorem k_519_51 : ckM 230 sp_519 us_519 ic_519 20000 36 36 os_519 (c_519_0 :: K_519) c_519_51 = true := by decide +kernel
set_option maxRecDepth 1000000 in
theorem k_519_52 : ckM 230 sp_519 us_519 ic_519 20000 36 36 os_519 (c_519_0 :: K_519) c_519_52 = true := by decide +kernel
set_option maxRecDepth 1000000 in
theorem k_519_53 : ckM 230 sp_519 us_519 ic_519 20000 36 36 os_519 (c_519_0 :: K_519) c_519_53 = true := by decide +kernel
set_option maxRecDepth 1000000 in
theorem k_519_54 : ckM 230 sp_519 us_519 ic_519 20000 36 36 os_519 (c_519_0 :: K_519) c_519_54 = true := by decide +kernel
set_option maxRecDepth 1000000 in
theorem k_519_55 : ckM 230 sp_519 us_519 ic_519 20000 36 36 os_519 (c_519_0 :: K_519) c_519_55 = true := by decide +kernel
set_option maxRecDepth 1000000 in
theorem k_519_56 : ckM 230 sp_519 us_519 ic_519 20000 36 36 os_519 (c_519_0 :: K_519) c_519_56 = true := by decide +kernel
set_option maxRecDepth 1000000 in
theorem k_519_57 : ckM 230 sp_519 us_519 ic_519 20000 36 36 os_519 (c_519_0 :: K_519) c_519_57 = true := by decide +kernel
set_option maxRecDepth 1000000 in
theorem k_519_58 : ckM 230 sp_519 us_519 ic_519 20000 36 36 os_519 (c_519_0 :: K_519) c_519_58 = true := by decide +kernel
set_option maxRecDepth 1000000 in
theorem k_519_59 : ckM 230 sp_519 us_519 ic_519 20000 36 36 os_519 (c_519_0 :: K_519) c_519_59 = true := by decide +kernel
set_option maxRecDepth 1000000 in
theorem k_519_60 : ckM 230 sp_519 us_519 ic_519 20000 36 36 os_519 (c_519_0 :: K_519) c_519_60 = true := by decide +kernel
set_option maxRecDepth 1000000 in
theorem k_519_61 : ckM 230 sp_519 us_519 ic_519 20000 36 36 os_519 (c_519_0 :: K_519) c_519_61 = true := by decide +kernel
set_option maxRecDepth 1000000 in
theorem k_519_62 : ckM 230 sp_519 us_519 ic_519 20000 36 36 os_519 (c_519_0 :: K_519) c_519_62 = true := by decide +kernel
set_option maxRecDepth 1000000 in
theorem k_519_63 : ckM 230 sp_519 us_519 ic_519 20000 36 36 os_519 (c_519_0 :: K_519) c_519_63 = true := by decide +kernel
set_option maxRecDepth 1000000 in
theorem k_519_64 : ckM 230 sp_519 us_519 ic_519 20000 36 36 os_519 (c_519_0 :: K_519) c_519_64 = true := by decide +kernel
set_option maxRecDepth 1000000 in
theorem k_519_65 : ckM 230 sp_519 us_519 ic_519 20000 36 36 os_519 (c_519_0 :: K_519) c_519_65 = true := by decide +kernel
set_option maxRecDepth 1000000 in
theorem k_519_66 : ckM 230 sp_519 us_519 ic_519 20000 36 36 os_519 (c_519_0 :: K_519) c_519_66 = true := by decide +kernel
set_option maxRecDepth 1000000 in
theorem k_519_67 : ckM 230 sp_519 us_519 ic_519 20000 36 36 os_519 (c_519_0 :: K_519) c_519_67 = true := by decide +kernel
set_option maxRecDepth 1000000 in
theorem k_519_68 : ckM 230 sp_519 us_519 ic_519 20000 36 36 os_519 (c_519_0 :: K_519) c_519_68 = true := by decide +kernel
set_option maxRecDepth 1000000 in
theorem k_519_69 : ckM 230 sp_519 us_519 ic_519 20000 36 36 os_519 (c_519_0 :: K_519) c_519_69 = true := by decide +kernel
set_option maxRecDepth 1000000 in
theorem k_519_70 : ckM 230 sp_519 us_519 ic_519 20000 36 36 os_519 (c_519_0 :: K_519) c_519_70 = true := by decide +kernel
