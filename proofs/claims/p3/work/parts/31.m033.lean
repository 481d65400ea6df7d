/-! ===== CONTRACTS, 31.m033 ===== -/
set_option maxRecDepth 1000000 in
theorem k_507_7 : ckM 230 sp_507 us_507 ic_507 20000 36 36 os_507 (c_507_0 :: K_507) c_507_7 = true := by decide +kernel
set_option maxRecDepth 1000000 in
theorem k_507_8 : ckM 230 sp_507 us_507 ic_507 20000 36 36 os_507 (c_507_0 :: K_507) c_507_8 = true := by decide +kernel
set_option maxRecDepth 1000000 in
theorem k_507_9 : ckM 230 sp_507 us_507 ic_507 20000 36 36 os_507 (c_507_0 :: K_507) c_507_9 = true := by decide +kernel
set_option maxRecDepth 1000000 in
theorem k_507_10 : ckM 230 sp_507 us_507 ic_507 20000 36 36 os_507 (c_507_0 :: K_507) c_507_10 = true := by decide +kernel
set_option maxRecDepth 1000000 in
theorem k_507_11 : ckM 230 sp_507 us_507 ic_507 20000 36 36 os_507 (c_507_0 :: K_507) c_507_11 = true := by decide +kernel
set_option maxRecDepth 1000000 in
theorem k_507_12 : ckM 230 sp_507 us_507 ic_507 20000 36 36 os_507 (c_507_0 :: K_507) c_507_12 = true := by decide +kernel
set_option maxRecDepth 1000000 in
theorem k_507_13 : ckM 230 sp_507 us_507 ic_507 20000 36 36 os_507 (c_507_0 :: K_507) c_507_13 = true := by decide +kernel
set_option maxRecDepth 1000000 in
theorem k_507_14 : ckM 230 sp_507 us_507 ic_507 20000 36 36 os_507 (c_507_0 :: K_507) c_507_14 = true := by decide +kernel
set_option maxRecDepth 1000000 in
theorem k_507_15 : ckM 230 sp_507 us_507 ic_507 20000 36 36 os_507 (c_507_0 :: K_507) c_507_15 = true := by decide +kernel
set_option maxRecDepth 1000000 in
theorem k_507_16 : ckM 230 sp_507 us_507 ic_507 20000 36 36 os_507 (c_507_0 :: K_507) c_507_16 = true := by decide +kernel
set_option maxRecDepth 1000000 in
theorem k_507_17 : ckM 230 sp_507 us_507 ic_507 20000 36 36 os_507 (c_507_0 :: K_507) c_507_17 = true := by decide +kernel
set_option maxRecDepth 1000000 in
theorem k_507_18 : ckM 230 sp_507 us_507 ic_507 20000 36 36 os_507 (c_507_0 :: K_507) c_507_18 = true := by decide +kernel
set_option maxRecDepth 1000000 in
theorem k_507_19 : ckM 230 sp_507 us_507 ic_507 20000 36 36 os_507 (c_507_0 :: K_507) c_507_19 = true := by decide +kernel
set_option maxRecDepth 1000000 in
theorem k_507_20 : ckM 230 sp_507 us_507 ic_507 20000 36 36 os_507 (c_507_0 :: K_507) c_507_20 = true := by decide +kernel
set_option maxRecDepth 1000000 in
theorem k_507_21 : ckM 230 sp_507 us_507 ic_507 20000 36 36 os_507 (c_507_0 :: K_507) c_507_21 = true := by decide +kernel
set_option maxRecDepth 1000000 in
theorem k_507_22 : ckM 230 sp_507 us_507 ic_507 20000 36 36 os_507 (c_507_0 :: K_507) c_507_22 = true := by decide +kernel
set_option maxRecDepth 1000000 in
theorem k_507_23 : ckM 230 sp_507 us_507 ic_507 20000 36 36 os_507 (c_507_0 :: K_507) c_507_23 = true := by decide +kernel
set_option maxRecDepth 1000000 in
theorem k_507_24 : ckM 230 sp_507 us_507 ic_507 20000 36 36 os_507 (c_507_0 :: K_507) c_507_24 = true := by decide +kernel
set_option maxRecDepth 1000000 in
theorem k_507_25 : ckM 230 sp_507 us_507 ic_507 20000 36 36 os_507 (c_507_0 :: K_507) c_507_25 = true := by decide +kernel
set_option maxRecDepth 1000000 in
theorem k_507_26 : ckM 230 sp_507 us_507 ic_507 20000 36 36 os_507 (c_507_0 :: K_507) c_507_26 = true := by decide +kernel
set_option maxRecDepth 1000000 in
theorem k_507_27 : ckM 230 sp_507 us_507 ic_507 20000 36 36 os_507 (c_507_0 :: K_507) c_507_27 = true := by decide +kernel
set_option maxRecDepth 1000000 in
theorem k_507_28 : ckM 230 sp_507 us_507 ic_507 20000 36 36 os_507 (c_507_0 :: K_507) c_507_28 = true := by decide +kernel
set_option maxRecDepth 1000000 in
theorem k_507_29 : ckM 230 sp_507 us_507 ic_507 20000 36 36 os_507 (c_507_0 :: K_507) c_507_29 = true := by decide +kernel
set_option maxRecDepth 1000000 in
theorem k_507_30 : ckM 230 sp_507 us_507 ic_507 20000 36 36 os_507 (c_507_0 :: K_507) c_507_30 = true := by decide +kernel
set_option maxRecDepth 1000000 in
theorem k_507_31 : ckM 230 sp_507 us_507 ic_507 20000 36 36 os_507 (c_507_0 :: K_507) c_507_31 = true := by decide +kernel
set_option maxRecDepth 1000000 in
theorem k_507_32 : ckM 230 sp_507 us_507 ic_507 20000 36 36 os_507 (c_507_0 :: K_507) c_507_32 = true := by decide +kernel
set_option maxRecDepth 1000000 in
theorem k_507_33 : ckM 230 sp_507 us_507 ic_507 20000 36 36 os_507 (c_507_0 :: K_507) c_507_33 = true := by decide +kernel
set_option maxRecDepth 1000000 in
theorem k_507_34 : ckM 230 sp_507 us_507 ic_507 20000 36 36 os_507 (c_507_0 :: K_507) c_507_34 = true := by decide +kernel
set_option maxRecDepth 1000000 in
theorem k_507_35 : ckM 230 sp_507 us_507 ic_507 20000 36 36 os_507 (c_507_0 :: K_507) c_507_35 = true := by decide +kernel
set_option maxRecDepth 1000000 in
theorem k_507_36 : ckM 230 sp_507 us_507 ic_507 20000 36 36 os_507 (c_507_0 :: K_507) c_507_36 = true := by decide +kernel
set_option maxRecDepth 1000000 in
theorem k_507_37 : ckM 230 sp_507 us_507 ic_507 20000 36 36 os_507 (c_507_0 :: K_507) c_507_37 = true := by decide +kernel
set_option maxRecDepth 1000000 in
theorem k_507_38 : ckM 230 sp_507 us_507 ic_507 20000 36 36 os_507 (c_507_0 :: K_507) c_507_38 = true := by decide +kernel
set_option maxRecDepth 1000000 in
theorem k_507_39 : ckM 230 sp_507 us_507 ic_507 20000 36 36 os_507 (c_507_0 :: K_507) c_507_39 = true := by decide +kernel
set_option maxRecDepth 1000000 in
theorem k_507_40 : ckM 230 sp_507 us_507 ic_507 20000 36 36 os_507 (c_507_0 :: K_507) c_507_40 = true := by decide +kernel
set_option maxRecDepth 1000000 in
theorem k_507_41 : ckM 230 sp_507 us_507 ic_507 20000 36 36 os_507 (c_507_0 :: K_507) c_507_41 = true := by decide +kernel
set_option maxRecDepth 1000000 in
theorem k_507_42 : ckM 230 sp_507 us_507 ic_507 20000 36 36 os_507 (c_507_0 :: K_507) c_507_42 = true := by decide +kernel
set_option maxRecDepth 1000000 in
theorem k_507_43 : ckM 230 sp_507 us_507 ic_507 20000 36 36 os_507 (c_507_0 :: K_507) c_507_43 = true := by decide +kernel
set_option maxRecDepth 1000000 in
theorem k_507_44 : ckM 230 sp_507 us_507 ic_507 20000 36 36 os_507 (c_507_0 :: K_507) c_507_44 = true := by decide +kernel
set_option maxRecDepth 1000000 in
theorem k_507_45 : ckM 230 sp_507 us_507 ic_507 20000 36 36 os_507 (c_507_0 :: K_507) c_507_45 = true := by decide +kernel
set_option maxRecDepth 1000000 in
theorem k_507_46 : ckM 230 sp_507 us_507 ic_507 20000 36 36 os_507 (c_507_0 :: K_507) c_507_46 = true := by decide +kernel
set_option maxRecDepth 1000000 in
theorem k_507_47 : ckM 230 sp_507 us_507 ic_507 20000 36 36 os_507 (c_507_0 :: K_507) c_507_47 = true := by decide +kernel
set_option maxRecDepth 1000000 in
theorem k_507_48 : ckM 230 sp_507 us_507 ic_507 20000 36 36 os_507 (c_507_0 :: K_507) c_507_48 = true := by decide +kernel
set_option maxRecDepth 1000000 in
theorem k_507_49 : ckM 230 sp_507 us_507 ic_507 20000 36 36 os_507 (c_507_0 :: K_507) c_507_49 = true := by decide +kernel
set_option maxRecDepth 1000000 in
theorem k_507_50 : ckM 230 sp_507 us_507 ic_507 20000 36 36 os_507 (c_507_0 :: K_507) c_507_50 = true := by decide +kernel
set_option maxRecDepth 1000000 in
theorem k_507_51 : ckM 230 sp_507 us_507 ic_507 20000 36 36 os_507 (c_507_0 :: K_507) c_507_51 = true := by decide +kernel
set_option maxRecDepth 1000000 in
theorem k_507_52 : ckM 230 sp_507 us_507 ic_507 20000 36 36 os_507 (c_507_0 :: K_507) c_507_52 = true := by decide +kernel
set_option maxRecDepth 1000000 in
theorem k_507_53 : ckM 230 sp_507 us_507 ic_507 20000 36 36 os_507 (c_507_0 :: K_507) c_507_53 = true := by decide +kernel
set_option maxRecDepth 1000000 in
theorem k_507_54 : ckM 230 sp_507 us_507 ic_507 20000 36 36 os_507 (c_507_0 :: K_507) c_507_54 = true := by decide +kernel
set_option maxRecDepth 1000000 in
theorem k_507_55 : ckM 230 sp_507 us_507 ic_507 20000 36 36 os_507 (c_507_0 :: K_507) c_507_55 = true := by decide +kernel
set_option maxRecDepth 1000000 in
theorem k_507_56 : ckM 230 sp_507 us_507 ic_507 20000 36 36 os_507 (c_507_0 :: K_507) c_507_56 = true := by decide +kernel
set_option maxRecDepth 1000000 in
theorem k_507_57 : ckM 230 sp_507 us_507 ic_507 20000 36 36 os_507 (c_507_0 :: K_507) c_507_57 = true := by decide +kernel
set_option maxRecDepth 1000000 in
theorem k_507_58 : ckM 230 sp_507 us_507 ic_507 20000 36 36 os_507 (c_507_0 :: K_507) c_507_58 = true := by decide +kernel
set_option maxRecDepth 1000000 in
theorem k_507_59 : ckM 230 sp_507 us_507 ic_507 20000 36 36 os_507 (c_507_0 :: K_507) c_507_59 = true := by decide +kernel
set_option maxRecDepth 1000000 in
theorem k_507_60 : ckM 230 sp_507 us_507 ic_507 20000 36 36 os_507 (c_507_0 :: K_507) c_507_60 = true := by decide +kernel
set_option maxRecDepth 1000000 in
theorem k_507_61 : ckM 230 sp_507 us_507 ic_507 20000 36 36 os_507 (c_507_0 :: K_507) c_507_61 = true := by decide +kernel
set_option maxRecDepth 1000000 in
theorem k_507_62 : ckM 230 sp_507 us_507 ic_507 20000 36 36 os_507 (c_507_0 :: K_507) c_507_62 = true := by decide +kernel
set_option maxRecDepth 1000000 in
theorem k_507_63 : ckM 230 sp_507 us_507 ic_507 20000 36 36 os_507 (c_507_0 :: K_507) c_507_63 = true := by decide +kernel
set_option maxRecDepth 1000000 in
theorem k_507_64 : ckM 230 sp_507 us_507 ic_507 20000 36 36 os_507 (c_507_0 :: K_507) c_507_64 = true := by decide +kernel
set_option maxRecDepth 1000000 in
theorem k_507_65 : ckM 230 sp_507 us_507 ic_507 20000 36 36 os_507 (c_507_0 :: K_507) c_507_65 = true := by decide +kernel
set_option maxRecDepth 1000000 in
theorem k_507_66 : ckM 230 sp_507 us_507 ic_507 20000 36 36 os_507 (c_507_0 :: K_507) c_507_66 = true := by decide +kernel
set_option maxRecDepth 1000000 in
theorem k_507_67 : ckM 230 sp_507 us_507 ic_507 20000 36 36 os_507 (c_507_0 :: K_507) c_507_67 = true := by decide +kernel
set_option maxRecDepth 1000000 in
theorem k_507_68 : ckM 230 sp_507 us_507 ic_507 20000 36 36 os_507 (c_507_0 :: K_507) c_507_68 = true := by decide +kernel
set_option maxRecDepth 1000000 in
theorem k_507_69 : ckM 230 sp_507 us_507 ic_507 20000 36 36 os_507 (c_507_0 :: K_507) c_507_69 = true := by decide +kernel
set_option maxRecDepth 1000000 in
theorem k_507_70 : ckM 230 sp_507 us_507 ic_507 20000 36 36 os_507 (c_507_0 :: K_507) c_507_70 = true := by decide +kernel
set_option maxRecDepth 1000000 in
theorem k_507_71 : ckM 230 sp_507 us_507 ic_507 20000 36 36 os_507 (c_507_0 :: K_507) c_507_71 = true := by decide +kernel
set_option maxRecDepth 1000000 in
theorem k_507_72 : ckM 230 sp_507 us_507 ic_507 20000 36 36 os_507 (c_507_0 :: K_507) c_507_72 = true := by decide +kernel
set_option maxRecDepth 1000000 in
theorem k_507_73 : ckM 230 sp_507 us_507 ic_507 20000 36 36 os_507 (c_507_0 :: K_507) c_507_73 = true := by decide +kernel
set_option maxRecDepth 1000000 in
theorem k_507_74 : ckM 230 sp_507 us_507 ic_507 20000 36 36 os_507 (c_507_0 :: K_507) c_507_74 = true := by decide +kernel
set_option maxRecDepth 1000000 in
theorem k_507_75 : ckM 230 sp_507 us_507 ic_507 20000 36 36 os_507 (c_507_0 :: K_507) c_507_75 = true := by decide +kernel
set_option maxRecDepth 1000000 in
theorem k_507_76 : ckM 230 sp_507 us_507 ic_507 20000 36 36 os_507 (c_507_0 :: K_507) c_507_76 = true := by decide +kernel
set_option maxRecDepth 1000000 in
theorem k_507_77 : ckM 230 sp_507 us_507 ic_507 20000 36 36 os_507 (c_507_0 :: K_507) c_507_77 = true := by decide +kernel
set_option maxRecDepth 1000000 in
theorem k_507_78 : ckM 230 sp_507 us_507 ic_507 20000 36 36 os_507 (c_507_0 :: K_507) c_507_78 = true := by decide +kernel
set_option maxRecDepth 1000000 in
theorem k_507_79 : ckM 230 sp_507 us_507 ic_507 20000 36 36 os_507 (c_507_0 :: K_507) c_507_79 = true := by decide +kernel
set_option maxRecDepth 1000000 in
theorem k_507_80 : ckM 230 sp_507 us_507 ic_507 20000 36 36 os_507 (c_507_0 :: K_507) c_507_80 = true := by decide +kernel
set_option maxRecDepth 1000000 in
theorem k_507_81 : ckM 230 sp_507 us_507 ic_507 20000 36 36 os_507 (c_507_0 :: K_507) c_507_81 = true := by decide +kernel
set_option maxRecDepth 1000000 in
theorem k_507_82 : ckM 230 sp_507 us_507 ic_507 20000 36 36 os_507 (c_507_0 :: K_507) c_507_82 = true := by decide +kernel
set_option maxRecDepth 1000000 in
theorem k_507_83 : ckM 230 sp_507 us_507 ic_507 20000 36 36 os_507 (c_507_0 :: K_507) c_507_83 = true := by decide +kernel
set_option maxRecDepth 1000000 in
theorem k_507_84 : ckM 230 sp_507 us_507 ic_507 20000 36 36 os_507 (c_507_0 :: K_507) c_507_84 = true := by decide +kernel
set_option maxRecDepth 1000000 in
theorem k_507_85 : ckM 230 sp_507 us_507 ic_507 20000 36 36 os_507 (c_507_0 :: K_507) c_507_85 = true := by decide +kernel
set_option maxRecDepth 1000000 in
theorem k_507_86 : ckM 230 sp_507 us_507 ic_507 20000 36 36 os_507 (c_507_0 :: K_507) c_507_86 = true := by decide +kernel
set_option maxRecDepth 1000000 in
theorem k_507_87 : ckM 230 sp_507 us_507 ic_507 20000 36 36 os_507 (c_507_0 :: K_507) c_507_87 = true := by decide +kernel
set_option maxRecDepth 1000000 in
theorem k_507_88 : ckM 230 sp_507 us_507 ic_507 20000 36 36 os_507 (c_507_0 :: K_507) c_507_88 = true := by decide +kernel
set_option maxRecDepth 1000000 in
theorem k_507_89 : ckM 230 sp_507 us_507 ic_507 20000 36 36 os_507 (c_507_0 :: K_507) c_507_89 = true := by decide +kernel
set_option maxRecDepth 1000000 in
theorem k_507_90 : ckM 230 sp_507 us_507 ic_507 20000 36 36 os_507 (c_507_0 :: K_507) c_507_90 = true := by decide +kernel
set_option maxRecDepth 1000000 in
theorem k_507_91 : ckM 230 sp_507 us_507 ic_507 20000 36 36 os_507 (c_507_0 :: K_507) c_507_91 = true := by decide +kernel
set_option maxRecDepth 1000000 in
theorem k_507_92 : ckM 230 sp_507 us_507 ic_507 20000 36 36 os_507 (c_507_0 :: K_507) c_507_92 = true := by decide +kernel
set_option maxRecDepth 1000000 in
theorem k_507_93 : ckM 230 sp_507 us_507 ic_507 20000 36 36 os_507 (c_507_0 :: K_507) c_507_93 = true := by decide +kernel
set_option maxRecDepth 1000000 in
theorem k_507_94 : ckM 230 sp_507 us_507 ic_507 20000 36 36 os_507 (c_507_0 :: K_507) c_507_94 = true := by decide +kernel
set_option maxRecDepth 1000000 in
theorem k_507_95 : ckM 230 sp_507 us_507 ic_507 20000 36 36 os_507 (c_507_0 :: K_507) c_507_95 = true := by decide +kernel
set_option maxRecDepth 1000000 in
theorem k_507_96 : ckM 230 sp_507 us_507 ic_507 20000 36 36 os_507 (c_507_0 :: K_507) c_507_96 = true := by decide +kernel
set_option maxRecDepth 1000000 in
theorem k_507_97 : ckM 230 sp_507 us_507 ic_507 20000 36 36 os_507 (c_507_0 :: K_507) c_507_97 = true := by decide +kernel
set_option maxRecDepth 1000000 in
theorem k_507_98 : ckM 230 sp_507 us_507 ic_507 20000 36 36 os_507 (c_507_0 :: K_507) c_507_98 = true := by decide +kernel
set_option maxRecDepth 1000000 in
theorem k_507_99 : ckM 230 sp_507 us_507 ic_507 20000 36 36 os_507 (c_507_0 :: K_507) c_507_99 = true := by decide +kernel
set_option maxRecDepth 1000000 in
theorem k_507_100 : ckM 230 sp_507 us_507 ic_507 20000 36 36 os_507 (c_507_0 :: K_507) c_507_100 = true := by decide +kernel
set_option maxRecDepth 1000000 in
theorem k_507_101 : ckM 230 sp_507 us_507 ic_507 20000 36 36 os_507 (c_507_0 :: K_507) c_507_101 = true := by decide +kernel
set_option maxRecDepth 1000000 in
theorem k_507_102 : ckM 230 sp_507 us_507 ic_507 20000 36 36 os_507 (c_507_0 :: K_507) c_507_102 = true := by decide +kernel
set_option maxRecDepth 1000000 in
theorem k_507_103 : ckM 230 sp_507 us_507 ic_507 20000 36 36 os_507 (c_507_0 :: K_507) c_507_103 = true := by decide +kernel
set_option maxRecDepth 1000000 in
theorem k_507_104 : ckM 230 sp_507 us_507 ic_507 20000 36 36 os_507 (c_507_0 :: K_507) c_507_104 = true := by decide +kernel
set_option maxRecDepth 1000000 in
theorem k_507_105 : ckM 230 sp_507 us_507 ic_507 20000 36 36 os_507 (c_507_0 :: K_507) c_507_105 = true := by decide +kernel
set_option maxRecDepth 1000000 in
theorem k_507_106 : ckM 230 sp_507 us_507 ic_507 20000 36 36 os_507 (c_507_0 :: K_507) c_507_106 = true := by decide +kernel
set_option maxRecDepth 100000 in
theorem ok_507 {l : Launch} (htr : l.stackTraces = false) {sb : eSB} (hvs : sb.1 60 = 1) {D : va_G} {cA : Nat → ClassId} : ctH l sb D cA 230 33 as_507 B_507 hp_507 (os_507.map (fun w => w.1)) := ctH_of htr hvs (M := 230) (by decide) (lev := 32) (by decide) (L := us_507) (by decide +kernel) (List.forall_mem_cons.mpr ⟨(List.forall_mem_cons.mpr ⟨(fun FR => ctH_mono (by decide) (ok_414 htr (sb := (sb.1, FR)) hvs)), (List.forall_mem_cons.mpr ⟨(fun FR => ctH_mono (by decide) (ok_415 htr (sb := (sb.1, FR)) hvs)), (List.forall_mem_cons.mpr ⟨(fun FR => ctH_mono (by decide) (ok_416 htr (sb := (sb.1, FR)) hvs)), (fun _ h => absurd h List.not_mem_nil)⟩)⟩)⟩), (List.forall_mem_cons.mpr ⟨(List.forall_mem_cons.mpr ⟨(fun FR => ctH_mono (by decide) (ok_375 htr (sb := (sb.1, FR)) hvs)), (fun _ h => absurd h List.not_mem_nil)⟩), (List.forall_mem_cons.mpr ⟨(List.forall_mem_cons.mpr ⟨(fun FR => ctH_mono (by decide) (ok_459 htr (sb := (sb.1, FR)) hvs)), (List.forall_mem_cons.mpr ⟨(fun FR => ctH_mono (by decide) (ok_505 htr (sb := (sb.1, FR)) hvs)), (List.forall_mem_cons.mpr ⟨(fun FR => ctH_mono (by decide) (ok_505 htr (sb := (sb.1, FR)) hvs)), (List.forall_mem_cons.mpr ⟨(fun FR => ctH_mono (by decide) (ok_505 htr (sb := (sb.1, FR)) hvs)), (List.forall_mem_cons.mpr ⟨(fun FR => ctH_mono (by decide) (ok_505 htr (sb := (sb.1, FR)) hvs)), (List.forall_mem_cons.mpr ⟨(fun FR => ctH_mono (by decide) (ok_505 htr (sb := (sb.1, FR)) hvs)), (List.forall_mem_cons.mpr ⟨(fun FR => ctH_mono (by decide) (ok_505 htr (sb := (sb.1, FR)) hvs)), (List.forall_mem_cons.mpr ⟨(fun FR => ctH_mono (by decide) (ok_505 htr (sb := (sb.1, FR)) hvs)), (List.forall_mem_cons.mpr ⟨(fun FR => ctH_mono (by decide) (ok_506 htr (sb := (sb.1, FR)) hvs)), (fun _ h => absurd h List.not_mem_nil)⟩)⟩)⟩)⟩)⟩)⟩)⟩)⟩)⟩), (List.forall_mem_cons.mpr ⟨(List.forall_mem_cons.mpr ⟨(fun FR => ctH_mono (by decide) (ok_383 htr (sb := (sb.1, FR)) hvs)), (List.forall_mem_cons.mpr ⟨(fun FR => ctH_mono (by decide) (ok_385 htr (sb := (sb.1, FR)) hvs)), (List.forall_mem_cons.mpr ⟨(fun FR => ctH_mono (by decide) (ok_386 htr (sb := (sb.1, FR)) hvs)), (fun _ h => absurd h List.not_mem_nil)⟩)⟩)⟩), (List.forall_mem_cons.mpr ⟨(List.forall_mem_cons.mpr ⟨(fun FR => ctH_mono (by decide) (ok_384 htr (sb := (sb.1, FR)) hvs)), (List.forall_mem_cons.mpr ⟨(fun FR => ctH_mono (by decide) (ok_385 htr (sb := (sb.1, FR)) hvs)), (List.forall_mem_cons.mpr ⟨(fun FR => ctH_mono (by decide) (ok_386 htr (sb := (sb.1, FR)) hvs)), (fun _ h => absurd h List.not_mem_nil)⟩)⟩)⟩), (List.forall_mem_cons.mpr ⟨(List.forall_mem_cons.mpr ⟨(fun FR => ctH_mono (by decide) (ok_383 htr (sb := (sb.1, FR)) hvs)), (fun _ h => absurd h List.not_mem_nil)⟩), (List.forall_mem_cons.mpr ⟨(List.forall_mem_cons.mpr ⟨(fun FR => ctH_mono (by decide) (ok_375 htr (sb := (sb.1, FR)) hvs)), (fun _ h => absurd h List.not_mem_nil)⟩), (List.forall_mem_cons.mpr ⟨(List.forall_mem_cons.mpr ⟨(fun FR => ctH_mono (by decide) (ok_505 htr (sb := (sb.1, FR)) hvs)), (List.forall_mem_cons.mpr ⟨(fun FR => ctH_mono (by decide) (ok_505 htr (sb := (sb.1, FR)) hvs)), (List.forall_mem_cons.mpr ⟨(fun FR => ctH_mono (by decide) (ok_505 htr (sb := (sb.1, FR)) hvs)), (List.forall_mem_cons.mpr ⟨(fun FR => ctH_mono (by decide) (ok_505 htr (sb := (sb.1, FR)) hvs)), (List.forall_mem_cons.mpr ⟨(fun FR => ctH_mono (by decide) (ok_505 htr (sb := (sb.1, FR)) hvs)), (List.forall_mem_cons.mpr ⟨(fun FR => ctH_mono (by decide) (ok_505 htr (sb := (sb.1, FR)) hvs)), (List.forall_mem_cons.mpr ⟨(fun FR => ctH_mono (by decide) (ok_505 htr (sb := (sb.1, FR)) hvs)), (List.forall_mem_cons.mpr ⟨(fun FR => ctH_mono (by decide) (ok_506 htr (sb := (sb.1, FR)) hvs)), (fun _ h => absurd h List.not_mem_nil)⟩)⟩)⟩)⟩)⟩)⟩)⟩)⟩), (List.forall_mem_cons.mpr ⟨(List.forall_mem_cons.mpr ⟨(fun FR => ctH_mono (by decide) (ok_454 htr (sb := (sb.1, FR)) hvs)), (List.forall_mem_cons.mpr ⟨(fun FR => ctH_mono (by decide) (ok_454 htr (sb := (sb.1, FR)) hvs)), (List.forall_mem_cons.mpr ⟨(fun FR => ctH_mono (by decide) (ok_454 htr (sb := (sb.1, FR)) hvs)), (List.forall_mem_cons.mpr ⟨(fun FR => ctH_mono (by decide) (ok_454 htr (sb := (sb.1, FR)) hvs)), (List.forall_mem_cons.mpr ⟨(fun FR => ctH_mono (by decide) (ok_454 htr (sb := (sb.1, FR)) hvs)), (List.forall_mem_cons.mpr ⟨(fun FR => ctH_mono (by decide) (ok_454 htr (sb := (sb.1, FR)) hvs)), (List.forall_mem_cons.mpr ⟨(fun FR => ctH_mono (by decide) (ok_454 htr (sb := (sb.1, FR)) hvs)), (List.forall_mem_cons.mpr ⟨(fun FR => ctH_mono (by decide) (ok_456 htr (sb := (sb.1, FR)) hvs)), (fun _ h => absurd h List.not_mem_nil)⟩)⟩)⟩)⟩)⟩)⟩)⟩)⟩), (List.forall_mem_cons.mpr ⟨(List.forall_mem_cons.mpr ⟨(fun FR => ctH_mono (by decide) (ok_455 htr (sb := (sb.1, FR)) hvs)), (List.forall_mem_cons.mpr ⟨(fun FR => ctH_mono (by decide) (ok_455 htr (sb := (sb.1, FR)) hvs)), (List.forall_mem_cons.mpr ⟨(fun FR => ctH_mono (by decide) (ok_455 htr (sb := (sb.1, FR)) hvs)), (List.forall_mem_cons.mpr ⟨(fun FR => ctH_mono (by decide) (ok_455 htr (sb := (sb.1, FR)) hvs)), (List.forall_mem_cons.mpr ⟨(fun FR => ctH_mono (by decide) (ok_455 htr (sb := (sb.1, FR)) hvs)), (List.forall_mem_cons.mpr ⟨(fun FR => ctH_mono (by decide) (ok_455 htr (sb := (sb.1, FR)) hvs)), (List.forall_mem_cons.mpr ⟨(fun FR => ctH_mono (by decide) (ok_456 htr (sb := (sb.1, FR)) hvs)), (fun _ h => absurd h List.not_mem_nil)⟩)⟩)⟩)⟩)⟩)⟩)⟩), (fun _ h => absurd h List.not_mem_nil)⟩)⟩)⟩)⟩)⟩)⟩)⟩)⟩)⟩)⟩) (n := 20000) (sp := sp_507) (isC := ic_507) (c0 := c_507_0) (K := K_507) (by decide +kernel) rfl (List.forall_mem_cons.mpr ⟨k_507_0, (List.forall_mem_cons.mpr ⟨k_507_1, (List.forall_mem_cons.mpr ⟨k_507_2, (List.forall_mem_cons.mpr ⟨k_507_3, (List.forall_mem_cons.mpr ⟨k_507_4, (List.forall_mem_cons.mpr ⟨k_507_5, (List.forall_mem_cons.mpr ⟨k_507_6, (List.forall_mem_cons.mpr ⟨k_507_7, (List.forall_mem_cons.mpr ⟨k_507_8, (List.forall_mem_cons.mpr ⟨k_507_9, (List.forall_mem_cons.mpr ⟨k_507_10, (List.forall_mem_cons.mpr ⟨k_507_11, (List.forall_mem_cons.mpr ⟨k_507_12, (List.forall_mem_cons.mpr ⟨k_507_13, (List.forall_mem_cons.mpr ⟨k_507_14, (List.forall_mem_cons.mpr ⟨k_507_15, (List.forall_mem_cons.mpr ⟨k_507_16, (List.forall_mem_cons.mpr ⟨k_507_17, (List.forall_mem_cons.mpr ⟨k_507_18, (List.forall_mem_cons.mpr ⟨k_507_19, (List.forall_mem_cons.mpr ⟨k_507_20, (List.forall_mem_cons.mpr ⟨k_507_21, (List.forall_mem_cons.mpr ⟨k_507_22, (List.forall_mem_cons.mpr ⟨k_507_23, (List.forall_mem_cons.mpr ⟨k_507_24, (List.forall_mem_cons.mpr ⟨k_507_25, (List.forall_mem_cons.mpr ⟨k_507_26, (List.forall_mem_cons.mpr ⟨k_507_27, (List.forall_mem_cons.mpr ⟨k_507_28, (List.forall_mem_cons.mpr ⟨k_507_29, (List.forall_mem_cons.mpr ⟨k_507_30, (List.forall_mem_cons.mpr ⟨k_507_31, (List.forall_mem_cons.mpr ⟨k_507_32, (List.forall_mem_cons.mpr ⟨k_507_33, (List.forall_mem_cons.mpr ⟨k_507_34, (List.forall_mem_cons.mpr ⟨k_507_35, (List.forall_mem_cons.mpr ⟨k_507_36, (List.forall_mem_cons.mpr ⟨k_507_37, (List.forall_mem_cons.mpr ⟨k_507_38, (List.forall_mem_cons.mpr ⟨k_507_39, (List.forall_mem_cons.mpr ⟨k_507_40, (List.forall_mem_cons.mpr ⟨k_507_41, (List.forall_mem_cons.mpr ⟨k_507_42, (List.forall_mem_cons.mpr ⟨k_507_43, (List.forall_mem_cons.mpr ⟨k_507_44, (List.forall_mem_cons.mpr ⟨k_507_45, (List.forall_mem_cons.mpr ⟨k_507_46, (List.forall_mem_cons.mpr ⟨k_507_47, (List.forall_mem_cons.mpr ⟨k_507_48, (List.forall_mem_cons.mpr ⟨k_507_49, (List.forall_mem_cons.mpr ⟨k_507_50, (List.forall_mem_cons.mpr ⟨k_507_51, (List.forall_mem_cons.mpr ⟨k_507_52, (List.forall_mem_cons.mpr ⟨k_507_53, (List.forall_mem_cons.mpr ⟨k_507_54, (List.forall_mem_cons.mpr ⟨k_507_55, (List.forall_mem_cons.mpr ⟨k_507_56, (List.forall_mem_cons.mpr ⟨k_507_57, (List.forall_mem_cons.mpr ⟨k_507_58, (List.forall_mem_cons.mpr ⟨k_507_59, (List.forall_mem_cons.mpr ⟨k_507_60, (List.forall_mem_cons.mpr ⟨k_507_61, (List.forall_mem_cons.mpr ⟨k_507_62, (List.forall_mem_cons.mpr ⟨k_507_63, (List.forall_mem_cons.mpr ⟨k_507_64, (List.forall_mem_cons.mpr ⟨k_507_65, (List.forall_mem_cons.mpr ⟨k_507_66, (List.forall_mem_cons.mpr ⟨k_507_67, (List.forall_mem_cons.mpr ⟨k_507_68, (List.forall_mem_cons.mpr ⟨k_507_69, (List.forall_mem_cons.mpr ⟨k_507_70, (List.forall_mem_cons.mpr ⟨k_507_71, (List.forall_mem_cons.mpr ⟨k_507_72, (List.forall_mem_cons.mpr ⟨k_507_73, (List.forall_mem_cons.mpr ⟨k_507_74, (List.forall_mem_cons.mpr ⟨k_507_75, (List.forall_mem_cons.mpr ⟨k_507_76, (List.forall_mem_cons.mpr ⟨k_507_77, (List.forall_mem_cons.mpr ⟨k_507_78, (List.forall_mem_cons.mpr ⟨k_507_79, (List.forall_mem_cons.mpr ⟨k_507_80, (List.forall_mem_cons.mpr ⟨k_507_81, (List.forall_mem_cons.mpr ⟨k_507_82, (List.forall_mem_cons.mpr ⟨k_507_83, (List.forall_mem_cons.mpr ⟨k_507_84, (List.forall_mem_cons.mpr ⟨k_507_85, (List.forall_mem_cons.mpr ⟨k_507_86, (List.forall_mem_cons.mpr ⟨k_507_87, (List.forall_mem_cons.mpr ⟨k_507_88, (List.forall_mem_cons.mpr ⟨k_507_89, (List.forall_mem_cons.mpr ⟨k_507_90, (List.forall_mem_cons.mpr ⟨k_507_91, (List.forall_mem_cons.mpr ⟨k_507_92, (List.forall_mem_cons.mpr ⟨k_507_93, (List.forall_mem_cons.mpr ⟨k_507_94, (List.forall_mem_cons.mpr ⟨k_507_95, (List.forall_mem_cons.mpr ⟨k_507_96, (List.forall_mem_cons.mpr ⟨k_507_97, (List.forall_mem_cons.mpr ⟨k_507_98, (List.forall_mem_cons.mpr ⟨k_507_99, (List.forall_mem_cons.mpr ⟨k_507_100, (List.forall_mem_cons.mpr ⟨k_507_101, (List.forall_mem_cons.mpr ⟨k_507_102, (List.forall_mem_cons.mpr ⟨k_507_103, (List.forall_mem_cons.mpr ⟨k_507_104, (List.forall_mem_cons.mpr ⟨k_507_105, (List.forall_mem_cons.mpr ⟨k_507_106, (fun _ h => absurd h List.not_mem_nil)⟩)⟩)⟩)⟩)⟩)⟩)⟩)⟩)⟩)⟩)⟩)⟩)⟩)⟩)⟩)⟩)⟩)⟩)⟩)⟩)⟩)⟩)⟩)⟩)⟩)⟩)⟩)⟩)⟩)⟩)⟩)⟩)⟩)⟩)⟩)⟩)⟩)⟩)⟩)⟩)⟩)⟩)⟩)⟩)⟩)⟩)⟩)⟩)⟩)⟩)⟩)⟩)⟩)⟩)⟩)⟩)⟩)⟩)⟩)⟩)⟩)⟩)⟩)⟩)⟩)⟩)⟩)⟩)⟩)⟩)⟩)⟩)⟩)⟩)⟩)⟩)⟩)⟩)⟩)⟩)⟩)⟩)⟩)⟩)⟩)⟩)⟩)⟩)⟩)⟩)⟩)⟩)⟩)⟩)⟩)⟩)⟩)⟩)⟩)⟩)⟩)⟩)⟩)⟩)⟩)⟩)⟩)
/-! BalconyPortModel.readNot -/
def as_508 : List eV := [(2, 0, 0, 0), (eI 2)]
def B_508 : eB := ([((-2147483648), 2147483647), (0, cmx), (0, 700), (0, 700), (0, 700), (0, 100000), (0, 700), (0, 700), ((-2147483648), 2147483647), ((-2147483648), 2147483647), (0, 999), ((-2147483648), 2147483647), (0, 40), (0, 8), (0, 100), ((-2147483648), 2147483647), (0, 1), (0, 40), (0, 8)], [(1004, 12289, 1152921508901814272, 1152921508901814272, 36865), (39, 12289, 1152921508901814272, 53249, 1152921508901814272), (8, 12289, 1152921508901814272, 53249, 28673), (1014, 12289, 1152921508901814272, 53249, 45057)])
def hp_508 : eH := [.inl (10, [(5, 59, 0, 0), (0, 4097, (-2147483648), 2147483647), (2, 1, 0, 0), (2, 2, 0, 0), (2, 3, 0, 0), (2, 4, 0, 0), (2, 5, 0, 0), (2, 6, 0, 0), (2, 7, 0, 0), (2, 8, 0, 0), (2, 9, 0, 0), (2, 10, 0, 0), (2, 11, 0, 0), (0, 20481, 0, 700), (0, 28673, 0, 700), (0, 36865, 0, 700), (eI 0), (0, 45057, 0, 100000), (0, 53249, 0, 700), (0, 28673, 0, 700), (eI 0), (0, 69633, (-2147483648), 2147483647), (0, 77825, (-2147483648), 2147483647), (2, 12, 0, 0), (2, 13, 0, 0), (2, 14, 0, 0), (2, 15, 0, 0), (2, 16, 0, 0), (2, 17, 0, 0), (2, 18, 0, 0), (2, 19, 0, 0), (0, 86017, 0, 999), (0, 94209, (-2147483648), 2147483647), (0, 102401, 0, 40), (0, 110593, 0, 8), (2, 20, 0, 0), (2, 21, 0, 0), (2, 22, 0, 0), (2, 23, 0, 0), (2, 24, 0, 0), (2, 25, 0, 0), (2, 26, 0, 0), (2, 27, 0, 0), (2, 28, 0, 0), (2, 29, 0, 0), (2, 30, 0, 0), (0, 118785, 0, 100), (0, 126977, (-2147483648), 2147483647), (0, 135169, 0, 1), (0, 143361, 0, 40), (0, 151553, 0, 8), (2, 31, 0, 0), (2, 32, 0, 0), (2, 33, 0, 0), (2, 34, 0, 0), (2, 35, 0, 0)]), fr9 1, fr9 2, fr9 3, fr9 4, fr9 5, fr9 6, fr9 7, fr9 8, fr9 9, fr9 10, fr9 11, fr9 12, fr9 13, fr9 14, fr9 15, fr9 16, fr9 17, fr9 18, fr9 19, fr9 20, fr9 21, fr9 22, fr9 23, fr9 24, fr9 25, fr9 26, fr9 27, fr9 28, fr9 29, fr9 30, fr9 31, fr9 32, fr9 33, fr9 34, fr9 35]
def th_508 : List (Option eP) := [some (1, 0, 1), some (3, 0, 0), some (1, 0, 13), some (1, 0, 14), some (1, 0, 15), some (1, 0, 17), some (1, 0, 18), some (1, 0, 19), some (1, 0, 21), some (1, 0, 22), some (1, 0, 31), some (1, 0, 32), some (1, 0, 33), some (1, 0, 34), some (1, 0, 46), some (1, 0, 47), some (1, 0, 48), some (1, 0, 49), some (1, 0, 50)]
def os_508 : List (eO × List (Option eP)) := [((0, none, (B_508.1, [(39, 12289, 1152921508901814272, 53249, 1152921508901814272), (8, 12289, 1152921508901814272, 53249, 28673), (1014, 12289, 1152921508901814272, 53249, 45057), (2066, 12289, 1152921508901814273, 53249, 53249)]), hS hp_508 [(0, oS hp_508 0 [(20, (eI 1)), (21, (0, 53249, 0, 700))])]), nTh 19 [])]
def cd_508 (φ : List Nat) : eCd := (as_508, B_508, hp_508, th_508, os_508.map (fun w => w.1), φ)
def gd_508 (th : List (Option eP)) (φ : List Nat) : eCd := (as_508, B_508, hp_508, th, os_508.map (fun w => w.1), φ)
def us_508 : eUs := [(5, 202, [gd_415 [some (1, 0, 1), some (3, 12288, 0), some (1, 0, 13), some (1, 0, 14), some (1, 0, 15), some (1, 0, 17), some (1, 0, 18), some (1, 0, 19), some (1, 0, 21), some (1, 0, 22), some (1, 0, 31), some (1, 0, 32), some (1, 0, 33), some (1, 0, 34), some (1, 0, 46), some (1, 0, 47), some (1, 0, 48), some (1, 0, 49), some (1, 0, 50)] [0, 1, 2, 3, 4, 5, 6, 7, 8, 9, 10, 11, 12, 13, 14, 15, 16, 17, 18, 19, 20, 21, 22, 23, 24, 25, 26, 27, 28, 29, 30, 31, 32, 33, 34, 35]]), (41, 234, [gd_506 [some (1, 0, 1), some (3, 12288, 0), some (1, 0, 13), some (1, 0, 14), some (1, 0, 15), some (1, 0, 17), some (1, 0, 18), some (1, 0, 19), some (1, 0, 21), some (1, 0, 22), some (1, 0, 31), some (1, 0, 32), some (1, 0, 33), some (1, 0, 34), some (1, 0, 46), some (1, 0, 47), some (1, 0, 48), some (1, 0, 49), some (1, 0, 50)] [0, 1, 2, 3, 4, 5, 6, 7, 8, 9, 10, 11, 12, 13, 14, 15, 16, 17, 18, 19, 20, 21, 22, 23, 24, 25, 26, 27, 28, 29, 30, 31, 32, 33, 34, 35]]), (47, 209, [cd_386 [0, 1, 2, 3, 4, 5, 6, 7, 8, 9, 10, 11, 12, 13, 14, 15, 16, 17, 18, 19, 20, 21, 22, 23, 24, 25, 26, 27, 28, 29, 30, 31, 32, 33, 34, 35]]), (56, 209, [cd_386 [0, 1, 2, 3, 4, 5, 6, 7, 8, 9, 10, 11, 12, 13, 14, 15, 16, 17, 18, 19, 20, 21, 22, 23, 24, 25, 26, 27, 28, 29, 30, 31, 32, 33, 34, 35]])]
def sp_508 : List (Nat × Nat) := []
def ic_508 (pc : Nat) : Bool := bif Nat.beq pc 95 then true else (bif Nat.beq pc 2 then true else (false))
def c_508_0 : eCut := ((0, eArgs 0 as_508, [], B_508, hp_508, 0, 0), [], [(900000, 0, 0), (0, 0, 0)])
def c_508_1 : eCut := ((2, [(0, (2, 0, 0, 0)), (1, (eI 2)), (2, (eI 0))], [], (B_508.1, B_508.2 ++ [(39, 12289, 1152921508901814272, 53249, 1152921508901814272), (8, 12289, 1152921508901814272, 53249, 28673), (1014, 12289, 1152921508901814272, 53249, 45057), (3116, 12289, 53249, 53249, 1152921508901814272)]), hp_508, 0, 0), nTh 19 [], [(2, 0, 0), (5000, 0, 0)])
def c_508_2 : eCut := ((95, [(0, (2, 0, 0, 0)), (1, (eI 2)), (2, (eI 0)), (3, (eI 0))], [], (B_508.1, B_508.2 ++ [(39, 12289, 1152921508901814272, 53249, 1152921508901814272), (8, 12289, 1152921508901814272, 53249, 28673), (1014, 12289, 1152921508901814272, 53249, 45057), (2066, 12289, 1152921508901814273, 53249, 53249)]), hS hp_508 [(0, oS hp_508 0 [(20, (eI 1)), (21, (0, 53249, 0, 700))])], 0, 0), nTh 19 [], [(1, 0, 0), (5000, 0, 0)])
def K_508 : List eCut := [c_508_1, c_508_2]
set_option maxRecDepth 1000000 in
theorem k_508_0 : ckM 230 sp_508 us_508 ic_508 20000 19 36 os_508 (c_508_0 :: K_508) c_508_0 = true := by decide +kernel
set_option maxRecDepth 1000000 in
theorem k_508_1 : ckM 230 sp_508 us_508 ic_508 20000 19 36 os_508 (c_508_0 :: K_508) c_508_1 = true := by decide +kernel
set_option maxRecDepth 1000000 in
theorem k_508_2 : ckM 230 sp_508 us_508 ic_508 20000 19 36 os_508 (c_508_0 :: K_508) c_508_2 = true := by decide +kernel
set_option maxRecDepth 100000 in
theorem ok_508 {l : Launch} (htr : l.stackTraces = false) {sb : eSB} (hvs : sb.1 60 = 1) {D : va_G} {cA : Nat → ClassId} : ctH l sb D cA 230 11 as_508 B_508 hp_508 (os_508.map (fun w => w.1)) := ctH_of htr hvs (M := 230) (by decide) (lev := 10) (by decide) (L := us_508) (by decide +kernel) (List.forall_mem_cons.mpr ⟨(List.forall_mem_cons.mpr ⟨(fun FR => ctH_mono (by decide) (ok_415 htr (sb := (sb.1, FR)) hvs)), (fun _ h => absurd h List.not_mem_nil)⟩), (List.forall_mem_cons.mpr ⟨(List.forall_mem_cons.mpr ⟨(fun FR => ctH_mono (by decide) (ok_506 htr (sb := (sb.1, FR)) hvs)), (fun _ h => absurd h List.not_mem_nil)⟩), (List.forall_mem_cons.mpr ⟨(List.forall_mem_cons.mpr ⟨(fun FR => ctH_mono (by decide) (ok_386 htr (sb := (sb.1, FR)) hvs)), (fun _ h => absurd h List.not_mem_nil)⟩), (List.forall_mem_cons.mpr ⟨(List.forall_mem_cons.mpr ⟨(fun FR => ctH_mono (by decide) (ok_386 htr (sb := (sb.1, FR)) hvs)), (fun _ h => absurd h List.not_mem_nil)⟩), (fun _ h => absurd h List.not_mem_nil)⟩)⟩)⟩)⟩) (n := 20000) (sp := sp_508) (isC := ic_508) (c0 := c_508_0) (K := K_508) (by decide +kernel) rfl (List.forall_mem_cons.mpr ⟨k_508_0, (List.forall_mem_cons.mpr ⟨k_508_1, (List.forall_mem_cons.mpr ⟨k_508_2, (fun _ h => absurd h List.not_mem_nil)⟩)⟩)⟩)
/-! BalconyPortModel.readAnd -/
def as_509 : List eV := [(2, 0, 0, 0), (eI 2)]
def B_509 : eB := ([((-2147483648), 2147483647), (0, 10), (0, 10), (1, 99), (1, 9), (1, 9), (0, 10), (0, 700), (0, 10), (0, 10), (0, 99), (0, 9), (0, 9), (0, 10), (0, 700), (0, cmx), (0, 700), (1, 700), (0, 700), (1, 4), (0, 100000), (0, 699), (0, 700), ((-2147483648), 2147483647), ((-2147483648), 2147483647), (0, 999), ((-2147483648), 2147483647), (0, 40), (0, 8), (0, 100), ((-2147483648), 2147483647), (0, 1), (0, 40), (0, 8), (0, 11), (0, 25)], [(1, 21, 1, 17, 0), (1004, 126977, 1152921508901814272, 1152921508901814272, 151553), (39, 126977, 1152921508901814272, 176129, 159745), (8, 126977, 1152921508901814272, 176129, 143361), (1014, 126977, 159745, 176129, 167937)])
def hp_509 : eH := [.inl (10, [(5, 59, 0, 0), (0, 4097, (-2147483648), 2147483647), (2, 1, 0, 0), (2, 2, 0, 0), (2, 3, 0, 0), (2, 4, 0, 0), (2, 5, 0, 0), (2, 6, 0, 0), (2, 7, 0, 0), (2, 8, 0, 0), (2, 9, 0, 0), (2, 10, 0, 0), (2, 11, 0, 0), (0, 135169, 0, 700), (0, 143361, 1, 700), (0, 151553, 0, 700), (0, 159745, 1, 4), (0, 167937, 0, 100000), (0, 176129, 0, 699), (0, 143361, 1, 700), (eI 0), (0, 192513, (-2147483648), 2147483647), (0, 200705, (-2147483648), 2147483647), (2, 12, 0, 0), (2, 13, 0, 0), (2, 14, 0, 0), (2, 15, 0, 0), (2, 16, 0, 0), (2, 17, 0, 0), (2, 18, 0, 0), (2, 19, 0, 0), (0, 208897, 0, 999), (0, 217089, (-2147483648), 2147483647), (0, 225281, 0, 40), (0, 233473, 0, 8), (2, 20, 0, 0), (2, 21, 0, 0), (2, 22, 0, 0), (2, 23, 0, 0), (2, 24, 0, 0), (2, 25, 0, 0), (2, 26, 0, 0), (2, 27, 0, 0), (2, 28, 0, 0), (2, 29, 0, 0), (2, 30, 0, 0), (0, 241665, 0, 100), (0, 249857, (-2147483648), 2147483647), (0, 258049, 0, 1), (0, 266241, 0, 40), (0, 274433, 0, 8), (2, 31, 0, 0), (2, 32, 0, 0), (2, 33, 0, 0), (2, 34, 0, 0), (2, 35, 0, 0)]), .inr (0, 14, eTop, [(0, (0, 12289, 0, 10)), (1, (0, 20481, 0, 10)), (2, (0, 28673, 1, 99)), (3, (0, 36865, 1, 9)), (4, (0, 45057, 1, 9)), (5, (0, 53249, 0, 10)), (6, (0, 61441, 0, 700)), (7, (0, 69633, 0, 10)), (8, (0, 77825, 0, 10)), (9, (0, 86017, 0, 99)), (10, (0, 94209, 0, 9)), (11, (0, 102401, 0, 9)), (12, (0, 110593, 0, 10)), (13, (0, 118785, 0, 700))]), fr9 2, fr9 3, fr9 4, fr9 5, fr9 6, fr9 7, fr9 8, .inr (6, 1400, (eI 0), [(0, (0, 61441, 0, 700)), (1, (0, 118785, 0, 700)), (2, (0, 282625, 0, 11)), (3, (0, 290817, 0, 25)), (4, (0, 176129, 0, 699))]), fr9 10, .inr (9, 700, (eI 0), [(0, (0, 126977, 0, cmx))]), fr9 12, fr9 13, fr9 14, fr9 15, fr9 16, fr9 17, fr9 18, fr9 19, fr9 20, fr9 21, fr9 22, fr9 23, fr9 24, fr9 25, fr9 26, fr9 27, fr9 28, fr9 29, fr9 30, fr9 31, fr9 32, fr9 33, fr9 34, fr9 35]
def th_509 : List (Option eP) := [some (1, 0, 1), some (2, 1, 0), some (2, 1, 1), some (2, 1, 2), some (2, 1, 3), some (2, 1, 4), some (2, 1, 5), some (2, 1, 6), some (2, 1, 7), some (2, 1, 8), some (2, 1, 9), some (2, 1, 10), some (2, 1, 11), some (2, 1, 12), some (2, 1, 13), some (3, 0, 0), some (1, 0, 13), some (1, 0, 14), some (1, 0, 15), some (1, 0, 16), some (1, 0, 17), some (1, 0, 18), some (1, 0, 19), some (1, 0, 21), some (1, 0, 22), some (1, 0, 31), some (1, 0, 32), some (1, 0, 33), some (1, 0, 34), some (1, 0, 46), some (1, 0, 47), some (1, 0, 48), some (1, 0, 49), some (1, 0, 50), some (3, 0, 0), some (3, 0, 0)]
def os_509 : List (eO × List (Option eP)) := [((0, none, (bS B_509.1 [(14, 0, 699), (19, 1, 3)] ++ [(1, 700), (0, 100000), (1, 700), (1, 700)], [(1, 38, 0, 36, 0), (1, 17, 0, 38, 0), (1, 17, 0, 36, 0), (1, 21, 1, 38, 0), (1, 21, 1, 36, 0), (39, 126977, 1152921508901814272, 315393, 1152921508901814272), (8, 126977, 1152921508901814272, 315393, 299009), (1014, 126977, 1152921508901814272, 315393, 307201), (56, 126977, 1152921508901814272, 176129, 315393)]), hS hp_509 [(0, oS hp_509 0 [(14, (0, 299009, 1, 700)), (16, (eI 0)), (17, (0, 307201, 0, 100000)), (18, (0, 315393, 1, 700)), (19, (0, 299009, 1, 700))]), (1, .inr (0, 14, eTop, [(0, (0, 12289, 0, 10)), (1, (0, 20481, 0, 10)), (2, (0, 28673, 1, 99)), (3, (0, 36865, 1, 9)), (4, (0, 45057, 1, 9)), (5, (0, 53249, 0, 10)), (6, (0, 61441, 0, 700)), (7, (0, 69633, 0, 10)), (8, (0, 77825, 0, 10)), (9, (0, 86017, 0, 99)), (10, (0, 94209, 0, 9)), (11, (0, 102401, 0, 9)), (12, (0, 110593, 0, 10)), (13, (0, 323585, 1, 700))])), (9, .inr (6, 1400, (eI 0), [(0, (0, 61441, 0, 700)), (1, (0, 323585, 1, 700)), (2, (0, 282626, 1, 12)), (3, (0, 290817, 0, 25)), (4, (0, 315393, 1, 700))]))]), nTh 36 [(1, 0, 14), (1, 0, 17), (1, 0, 18), (2, 1, 13)]), ((0, none, (bS B_509.1 [(14, 0, 699), (17, 1, 699), (18, 1, 700), (19, 1, 3), (21, 0, 698)] ++ [(2, 700), (1, 4), (0, 100000), (1, 699), (1, 700)], [(1, 39, 1, 36, 0), (1, 17, 0, 39, 0), (1, 17, 1, 36, 0), (1, 21, 1, 39, 0), (1, 21, 2, 36, 0), (39, 126977, 1152921508901814272, 323585, 307201), (8, 126977, 1152921508901814272, 323585, 299009), (1014, 126977, 307201, 323585, 315393), (56, 126977, 1152921508901814272, 176129, 323585)]), hS hp_509 [(0, oS hp_509 0 [(14, (0, 299009, 2, 700)), (15, (0, 151553, 1, 700)), (16, (0, 307201, 1, 4)), (17, (0, 315393, 0, 100000)), (18, (0, 323585, 1, 699)), (19, (0, 299009, 2, 700))]), (1, .inr (0, 14, eTop, [(0, (0, 12289, 0, 10)), (1, (0, 20481, 0, 10)), (2, (0, 28673, 1, 99)), (3, (0, 36865, 1, 9)), (4, (0, 45057, 1, 9)), (5, (0, 53249, 0, 10)), (6, (0, 61441, 0, 700)), (7, (0, 69633, 0, 10)), (8, (0, 77825, 0, 10)), (9, (0, 86017, 0, 99)), (10, (0, 94209, 0, 9)), (11, (0, 102401, 0, 9)), (12, (0, 110593, 0, 10)), (13, (0, 331777, 1, 700))])), (9, .inr (6, 1400, (eI 0), [(0, (0, 61441, 0, 700)), (1, (0, 331777, 1, 700)), (2, (0, 282626, 1, 12)), (3, (0, 290817, 0, 25)), (4, (0, 323585, 1, 699))]))]), nTh 36 [(1, 0, 14), (1, 0, 16), (1, 0, 17), (1, 0, 18), (2, 1, 13)]), ((0, none, (B_509.1 ++ [(1, 700), (0, 4), (0, 100000), (0, 700), (1, 3), (0, 700)], [(1, 39, 0, 36, 0), (1, 17, 0, 36, 0), (1, 21, 0, 39, 0), (1, 21, 1, 36, 0), (39, 126977, 1152921508901814272, 323585, 307201), (8, 126977, 1152921508901814272, 323585, 299009), (1014, 126977, 307201, 323585, 315393), (2056, 126977, 331777, 176129, 323585)]), hS hp_509 [(0, oS hp_509 0 [(14, (0, 299009, 1, 700)), (16, (0, 307201, 0, 4)), (17, (0, 315393, 0, 100000)), (18, (0, 323585, 0, 700)), (19, (0, 299009, 1, 700)), (20, (0, 331777, 1, 3)), (21, (0, 323585, 0, 700))]), (1, .inr (0, 14, eTop, [(0, (0, 12289, 0, 10)), (1, (0, 20481, 0, 10)), (2, (0, 28673, 1, 99)), (3, (0, 36865, 1, 9)), (4, (0, 45057, 1, 9)), (5, (0, 53249, 0, 10)), (6, (0, 61441, 0, 700)), (7, (0, 69633, 0, 10)), (8, (0, 77825, 0, 10)), (9, (0, 86017, 0, 99)), (10, (0, 94209, 0, 9)), (11, (0, 102401, 0, 9)), (12, (0, 110593, 0, 10)), (13, (0, 339969, 0, 700))])), (9, .inr (7, 1400, (eI 0), [(0, (0, 61441, 0, 700))]))]), nTh 36 [(1, 0, 14), (1, 0, 16), (1, 0, 17), (1, 0, 18), (1, 0, 20), (2, 1, 13)])]
def cd_509 (φ : List Nat) : eCd := (as_509, B_509, hp_509, th_509, os_509.map (fun w => w.1), φ)
def gd_509 (th : List (Option eP)) (φ : List Nat) : eCd := (as_509, B_509, hp_509, th, os_509.map (fun w => w.1), φ)
def us_509 : eUs := [(2, 230, [gd_507 [some (1, 0, 1), some (2, 1, 0), some (2, 1, 1), some (2, 1, 2), some (2, 1, 3), some (2, 1, 4), some (2, 1, 5), some (2, 1, 6), some (2, 1, 7), some (2, 1, 8), some (2, 1, 9), some (2, 1, 10), some (2, 1, 11), some (2, 1, 12), some (2, 1, 13), some (3, 126976, 0), some (1, 0, 13), some (1, 0, 14), some (1, 0, 15), some (1, 0, 16), some (1, 0, 17), some (1, 0, 18), some (1, 0, 19), some (1, 0, 21), some (1, 0, 22), some (1, 0, 31), some (1, 0, 32), some (1, 0, 33), some (1, 0, 34), some (1, 0, 46), some (1, 0, 47), some (1, 0, 48), some (1, 0, 49), some (1, 0, 50), some (3, 282624, 0), some (3, 290816, 0)] [0, 1, 2, 3, 4, 5, 6, 7, 8, 9, 10, 11, 12, 13, 14, 15, 16, 17, 18, 19, 20, 21, 22, 23, 24, 25, 26, 27, 28, 29, 30, 31, 32, 33, 34, 35]]), (8, 202, [gd_417 [some (1, 0, 1), some (3, 126976, 0), some (1, 0, 13), some (1, 0, 14), some (1, 0, 15), some (1, 0, 16), some (1, 0, 17), some (1, 0, 18), some (1, 0, 19), some (1, 0, 21), some (1, 0, 22), some (1, 0, 31), some (1, 0, 32), some (1, 0, 33), some (1, 0, 34), some (1, 0, 46), some (1, 0, 47), some (1, 0, 48), some (1, 0, 49), some (1, 0, 50)] [0, 1, 2, 3, 4, 5, 6, 7, 8, 9, 10, 11, 12, 13, 14, 15, 16, 17, 18, 19, 20, 21, 22, 23, 24, 25, 26, 27, 28, 29, 30, 31, 32, 33, 34, 35], gd_418 [some (1, 0, 1), some (3, 126976, 0), some (1, 0, 13), some (1, 0, 14), some (1, 0, 15), some (1, 0, 17), some (1, 0, 18), some (1, 0, 19), some (1, 0, 21), some (1, 0, 22), some (1, 0, 31), some (1, 0, 32), some (1, 0, 33), some (1, 0, 34), some (1, 0, 46), some (1, 0, 47), some (1, 0, 48), some (1, 0, 49), some (1, 0, 50)] [0, 1, 2, 3, 4, 5, 6, 7, 8, 9, 10, 11, 12, 13, 14, 15, 16, 17, 18, 19, 20, 21, 22, 23, 24, 25, 26, 27, 28, 29, 30, 31, 32, 33, 34, 35], cd_419 [0, 1, 2, 3, 4, 5, 6, 7, 8, 9, 10, 11, 12, 13, 14, 15, 16, 17, 18, 19, 20, 21, 22, 23, 24, 25, 26, 27, 28, 29, 30, 31, 32, 33, 34, 35]]), (15, 249, [gd_375 [some (1, 0, 1), some (3, 126976, 0), some (1, 0, 13), some (1, 0, 14), some (1, 0, 15), some (1, 0, 16), some (1, 0, 17), some (1, 0, 18), some (1, 0, 19), some (1, 0, 21), some (1, 0, 22), some (1, 0, 31), some (1, 0, 32), some (1, 0, 33), some (1, 0, 34), some (1, 0, 46), some (1, 0, 47), some (1, 0, 48), some (1, 0, 49), some (1, 0, 50)] [0, 1, 2, 3, 4, 5, 6, 7, 8, 9, 10, 11, 12, 13, 14, 15, 16, 17, 18, 19, 20, 21, 22, 23, 24, 25, 26, 27, 28, 29, 30, 31, 32, 33, 34, 35]]), (20, 230, [gd_507 [some (1, 0, 1), some (2, 1, 0), some (2, 1, 1), some (2, 1, 2), some (2, 1, 3), some (2, 1, 4), some (2, 1, 5), some (2, 1, 6), some (2, 1, 7), some (2, 1, 8), some (2, 1, 9), some (2, 1, 10), some (2, 1, 11), some (2, 1, 12), some (2, 1, 13), some (3, 126976, 0), some (1, 0, 13), some (1, 0, 14), some (1, 0, 15), some (1, 0, 16), some (1, 0, 17), some (1, 0, 18), some (1, 0, 19), some (1, 0, 21), some (1, 0, 22), some (1, 0, 31), some (1, 0, 32), some (1, 0, 33), some (1, 0, 34), some (1, 0, 46), some (1, 0, 47), some (1, 0, 48), some (1, 0, 49), some (1, 0, 50), some (3, 282625, 0), some (3, 290817, 0)] [0, 1, 2, 3, 4, 5, 6, 7, 8, 9, 10, 11, 12, 13, 14, 15, 16, 17, 18, 19, 20, 21, 22, 23, 24, 25, 26, 27, 28, 29, 30, 31, 32, 33, 34, 35], gd_508 [some (1, 0, 1), some (3, 126976, 0), some (1, 0, 13), some (1, 0, 14), some (1, 0, 15), some (1, 0, 17), some (1, 0, 18), some (1, 0, 19), some (1, 0, 21), some (1, 0, 22), some (1, 0, 31), some (1, 0, 32), some (1, 0, 33), some (1, 0, 34), some (1, 0, 46), some (1, 0, 47), some (1, 0, 48), some (1, 0, 49), some (1, 0, 50)] [0, 1, 2, 3, 4, 5, 6, 7, 8, 9, 10, 11, 12, 13, 14, 15, 16, 17, 18, 19, 20, 21, 22, 23, 24, 25, 26, 27, 28, 29, 30, 31, 32, 33, 34, 35]]), (26, 214, [gd_454 [some (1, 0, 1), some (2, 1, 0), some (2, 1, 1), some (2, 1, 2), some (2, 1, 3), some (2, 1, 4), some (2, 1, 5), some (2, 1, 6), some (2, 1, 7), some (2, 1, 8), some (2, 1, 9), some (2, 1, 10), some (2, 1, 11), some (2, 1, 12), some (2, 1, 13), some (1, 0, 13), some (1, 0, 14), some (1, 0, 15), some (1, 0, 16), some (1, 0, 17), some (1, 0, 18), some (1, 0, 19), some (1, 0, 21), some (1, 0, 22), some (1, 0, 31), some (1, 0, 32), some (1, 0, 33), some (1, 0, 34), some (1, 0, 46), some (1, 0, 47), some (1, 0, 48), some (1, 0, 49), some (1, 0, 50), some (3, 282626, 0), some (3, 290817, 0), some (0, 1, 0)] [0, 1, 2, 3, 4, 5, 6, 7, 8, 9, 10, 11, 12, 13, 14, 15, 16, 17, 18, 19, 20, 21, 22, 23, 24, 25, 26, 27, 28, 29, 30, 31, 32, 33, 34, 35], cd_456 [0, 1, 2, 3, 4, 5, 6, 7, 8, 9, 10, 11, 12, 13, 14, 15, 16, 17, 18, 19, 20, 21, 22, 23, 24, 25, 26, 27, 28, 29, 30, 31, 32, 33, 34, 35]])]
def sp_509 : List (Nat × Nat) := []
def ic_509 (pc : Nat) : Bool := bif Nat.beq pc 5 then true else (false)
def c_509_0 : eCut := ((0, eArgs 0 as_509, [], B_509, hp_509, 0, 0), [], [(900000, 0, 0), (0, 0, 0)])
def c_509_1 : eCut := ((5, [(0, (2, 0, 0, 0)), (1, (eI 2))], [], (bS B_509.1 [(14, 0, 699), (19, 1, 3)] ++ [(1, 700), (0, 100000), (1, 700), (1, 700)], B_509.2 ++ [(1, 38, 0, 36, 0), (1, 17, 0, 38, 0), (1, 17, 0, 36, 0), (1, 21, 1, 38, 0), (1, 21, 1, 36, 0), (39, 126977, 1152921508901814272, 315393, 1152921508901814272), (8, 126977, 1152921508901814272, 315393, 299009), (1014, 126977, 1152921508901814272, 315393, 307201), (3026, 126977, 315393, 176129, 1152921508901814272)]), hS hp_509 [(0, oS hp_509 0 [(14, (0, 299009, 1, 700)), (16, (eI 0)), (17, (0, 307201, 0, 100000)), (18, (0, 315393, 1, 700)), (19, (0, 299009, 1, 700))]), (1, .inr (0, 14, eTop, [(0, (0, 12289, 0, 10)), (1, (0, 20481, 0, 10)), (2, (0, 28673, 1, 99)), (3, (0, 36865, 1, 9)), (4, (0, 45057, 1, 9)), (5, (0, 53249, 0, 10)), (6, (0, 61441, 0, 700)), (7, (0, 69633, 0, 10)), (8, (0, 77825, 0, 10)), (9, (0, 86017, 0, 99)), (10, (0, 94209, 0, 9)), (11, (0, 102401, 0, 9)), (12, (0, 110593, 0, 10)), (13, (0, 323585, 1, 700))])), (9, .inr (6, 1400, (eI 0), [(0, (0, 61441, 0, 700)), (1, (0, 323585, 1, 700)), (2, (0, 282626, 1, 12)), (3, (0, 290817, 0, 25)), (4, (0, 315393, 1, 700))]))], 0, 0), nTh 36 [(1, 0, 14), (1, 0, 17), (1, 0, 18), (2, 1, 13)], [(1, 0, 0), (0, 0, 0)])
def c_509_2 : eCut := ((5, [(0, (2, 0, 0, 0)), (1, (eI 2))], [], (bS B_509.1 [(14, 0, 699), (17, 1, 699), (18, 1, 700), (19, 1, 3), (21, 0, 698)] ++ [(2, 700), (1, 4), (0, 100000), (1, 699), (1, 700)], B_509.2 ++ [(1, 39, 1, 36, 0), (1, 17, 0, 39, 0), (1, 17, 1, 36, 0), (1, 21, 1, 39, 0), (1, 21, 2, 36, 0), (39, 126977, 1152921508901814272, 323585, 307201), (8, 126977, 1152921508901814272, 323585, 299009), (1014, 126977, 307201, 323585, 315393), (3026, 126977, 323585, 176129, 1152921508901814272)]), hS hp_509 [(0, oS hp_509 0 [(14, (0, 299009, 2, 700)), (15, (0, 151553, 1, 700)), (16, (0, 307201, 1, 4)), (17, (0, 315393, 0, 100000)), (18, (0, 323585, 1, 699)), (19, (0, 299009, 2, 700))]), (1, .inr (0, 14, eTop, [(0, (0, 12289, 0, 10)), (1, (0, 20481, 0, 10)), (2, (0, 28673, 1, 99)), (3, (0, 36865, 1, 9)), (4, (0, 45057, 1, 9)), (5, (0, 53249, 0, 10)), (6, (0, 61441, 0, 700)), (7, (0, 69633, 0, 10)), (8, (0, 77825, 0, 10)), (9, (0, 86017, 0, 99)), (10, (0, 94209, 0, 9)), (11, (0, 102401, 0, 9)), (12, (0, 110593, 0, 10)), (13, (0, 331777, 1, 700))])), (9, .inr (6, 1400, (eI 0), [(0, (0, 61441, 0, 700)), (1, (0, 331777, 1, 700)), (2, (0, 282626, 1, 12)), (3, (0, 290817, 0, 25)), (4, (0, 323585, 1, 699))]))], 0, 0), nTh 36 [(1, 0, 14), (1, 0, 16), (1, 0, 17), (1, 0, 18), (2, 1, 13)], [(1, 0, 0), (701, (-1), 39)])
def c_509_3 : eCut := ((5, [(0, (2, 0, 0, 0)), (1, (eI 2))], [], (B_509.1 ++ [(1, 700), (0, 4), (0, 100000), (0, 700), (1, 3), (0, 700)], B_509.2 ++ [(1, 39, 0, 36, 0), (1, 17, 0, 36, 0), (1, 21, 0, 39, 0), (1, 21, 1, 36, 0), (39, 126977, 1152921508901814272, 323585, 307201), (8, 126977, 1152921508901814272, 323585, 299009), (1014, 126977, 307201, 323585, 315393), (2056, 126977, 331777, 176129, 323585)]), hS hp_509 [(0, oS hp_509 0 [(14, (0, 299009, 1, 700)), (16, (0, 307201, 0, 4)), (17, (0, 315393, 0, 100000)), (18, (0, 323585, 0, 700)), (19, (0, 299009, 1, 700)), (20, (0, 331777, 1, 3)), (21, (0, 323585, 0, 700))]), (1, .inr (0, 14, eTop, [(0, (0, 12289, 0, 10)), (1, (0, 20481, 0, 10)), (2, (0, 28673, 1, 99)), (3, (0, 36865, 1, 9)), (4, (0, 45057, 1, 9)), (5, (0, 53249, 0, 10)), (6, (0, 61441, 0, 700)), (7, (0, 69633, 0, 10)), (8, (0, 77825, 0, 10)), (9, (0, 86017, 0, 99)), (10, (0, 94209, 0, 9)), (11, (0, 102401, 0, 9)), (12, (0, 110593, 0, 10)), (13, (0, 339969, 0, 700))])), (9, .inr (7, 1400, (eI 0), [(0, (0, 61441, 0, 700))]))], 0, 0), nTh 36 [(1, 0, 14), (1, 0, 16), (1, 0, 17), (1, 0, 18), (1, 0, 20), (2, 1, 13)], [(1, 0, 0), (0, 0, 0)])
def K_509 : List eCut := [c_509_1, c_509_2, c_509_3]
set_option maxRecDepth 1000000 in
theorem k_509_0 : ckM 227 sp_509 us_509 ic_509 20000 36 36 os_509 (c_509_0 :: K_509) c_509_0 = true := by decide +kernel
set_option maxRecDepth 1000000 in
theorem k_509_1 : ckM 227 sp_509 us_509 ic_509 20000 36 36 os_509 (c_509_0 :: K_509) c_509_1 = true := by decide +kernel
set_option maxRecDepth 1000000 in
theorem k_509_2 : ckM 227 sp_509 us_509 ic_509 20000 36 36 os_509 (c_509_0 :: K_509) c_509_2 = true := by decide +kernel
