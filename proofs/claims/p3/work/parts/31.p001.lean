/-! ===== CONTRACTS, 31.p001 ===== -/
set_option maxRecDepth 1000000 in
theorem k_560_0 : ckM 224 sp_560 us_560 ic_560 20000 57 36 os_560 (c_560_0 :: K_560) c_560_0 = true := by decide +kernel
set_option maxRecDepth 1000000 in
theorem k_560_1 : ckM 224 sp_560 us_560 ic_560 20000 57 36 os_560 (c_560_0 :: K_560) c_560_1 = true := by decide +kernel
set_option maxRecDepth 1000000 in
theorem k_560_2 : ckM 224 sp_560 us_560 ic_560 20000 57 36 os_560 (c_560_0 :: K_560) c_560_2 = true := by decide +kernel
set_option maxRecDepth 1000000 in
theorem k_560_3 : ckM 224 sp_560 us_560 ic_560 20000 57 36 os_560 (c_560_0 :: K_560) c_560_3 = true := by decide +kernel
set_option maxRecDepth 1000000 in
theorem k_560_4 : ckM 224 sp_560 us_560 ic_560 20000 57 36 os_560 (c_560_0 :: K_560) c_560_4 = true := by decide +kernel
set_option maxRecDepth 1000000 in
theorem k_560_5 : ckM 224 sp_560 us_560 ic_560 20000 57 36 os_560 (c_560_0 :: K_560) c_560_5 = true := by decide +kernel
set_option maxRecDepth 1000000 in
theorem k_560_6 : ckM 224 sp_560 us_560 ic_560 20000 57 36 os_560 (c_560_0 :: K_560) c_560_6 = true := by decide +kernel
set_option maxRecDepth 1000000 in
theorem k_560_7 : ckM 224 sp_560 us_560 ic_560 20000 57 36 os_560 (c_560_0 :: K_560) c_560_7 = true := by decide +kernel
set_option maxRecDepth 1000000 in
theorem k_560_8 : ckM 224 sp_560 us_560 ic_560 20000 57 36 os_560 (c_560_0 :: K_560) c_560_8 = true := by decide +kernel
set_option maxRecDepth 1000000 in
theorem k_560_9 : ckM 224 sp_560 us_560 ic_560 20000 57 36 os_560 (c_560_0 :: K_560) c_560_9 = true := by decide +kernel
set_option maxRecDepth 1000000 in
theorem k_560_10 : ckM 224 sp_560 us_560 ic_560 20000 57 36 os_560 (c_560_0 :: K_560) c_560_10 = true := by decide +kernel
set_option maxRecDepth 1000000 in
theorem k_560_11 : ckM 224 sp_560 us_560 ic_560 20000 57 36 os_560 (c_560_0 :: K_560) c_560_11 = true := by decide +kernel
set_option maxRecDepth 1000000 in
theorem k_560_12 : ckM 224 sp_560 us_560 ic_560 20000 57 36 os_560 (c_560_0 :: K_560) c_560_12 = true := by decide +kernel
set_option maxRecDepth 1000000 in
theorem k_560_13 : ckM 224 sp_560 us_560 ic_560 20000 57 36 os_560 (c_560_0 :: K_560) c_560_13 = true := by decide +kernel
set_option maxRecDepth 1000000 in
theorem k_560_14 : ckM 224 sp_560 us_560 ic_560 20000 57 36 os_560 (c_560_0 :: K_560) c_560_14 = true := by decide +kernel
set_option maxRecDepth 1000000 in
theorem k_560_15 : ckM 224 sp_560 us_560 ic_560 20000 57 36 os_560 (c_560_0 :: K_560) c_560_15 = true := by decide +kernel
set_option maxRecDepth 1000000 in
theorem k_560_16 : ckM 224 sp_560 us_560 ic_560 20000 57 36 os_560 (c_560_0 :: K_560) c_560_16 = true := by decide +kernel
set_option maxRecDepth 1000000 in
theorem k_560_17 : ckM 224 sp_560 us_560 ic_560 20000 57 36 os_560 (c_560_0 :: K_560) c_560_17 = true := by decide +kernel
set_option maxRecDepth 1000000 in
theorem k_560_18 : ckM 224 sp_560 us_560 ic_560 20000 57 36 os_560 (c_560_0 :: K_560) c_560_18 = true := by decide +kernel
set_option maxRecDepth 1000000 in
theorem k_560_19 : ckM 224 sp_560 us_560 ic_560 20000 57 36 os_560 (c_560_0 :: K_560) c_560_19 = true := by decide +kernel
set_option maxRecDepth 1000000 in
theorem k_560_20 : ckM 224 sp_560 us_560 ic_560 20000 57 36 os_560 (c_560_0 :: K_560) c_560_20 = true := by decide +kernel
set_option maxRecDepth 1000000 in
theorem k_560_21 : ckM 224 sp_560 us_560 ic_560 20000 57 36 os_560 (c_560_0 :: K_560) c_560_21 = true := by decide +kernel
set_option maxRecDepth 1000000 in
theorem k_560_22 : ckM 224 sp_560 us_560 ic_560 20000 57 36 os_560 (c_560_0 :: K_560) c_560_22 = true := by decide +kernel
set_option maxRecDepth 1000000 in
theorem k_560_23 : ckM 224 sp_560 us_560 ic_560 20000 57 36 os_560 (c_560_0 :: K_560) c_560_23 = true := by decide +kernel
set_option maxRecDepth 1000000 in
theorem k_560_24 : ckM 224 sp_560 us_560 ic_560 20000 57 36 os_560 (c_560_0 :: K_560) c_560_24 = true := by decide +kernel
set_option maxRecDepth 100000 in
theorem ok_560 {l : Launch} (htr : l.stackTraces = false) {sb : eSB} (hvs : sb.1 60 = 1) {D : va_G} {cA : Nat → ClassId} : ctH l sb D cA 224 49 as_560 B_560 hp_560 (os_560.map (fun w => w.1)) := ctH_of htr hvs (M := 224) (by decide) (lev := 48) (by decide) (L := us_560) (by decide +kernel) (List.forall_mem_cons.mpr ⟨(List.forall_mem_cons.mpr ⟨(fun FR => ctH_mono (by decide) (ok_374 htr (sb := (sb.1, FR)) hvs)), (fun _ h => absurd h List.not_mem_nil)⟩), (List.forall_mem_cons.mpr ⟨(List.forall_mem_cons.mpr ⟨(fun FR => ctH_mono (by decide) (ok_544 htr (sb := (sb.1, FR)) hvs)), (List.forall_mem_cons.mpr ⟨(fun FR => ctH_mono (by decide) (ok_545 htr (sb := (sb.1, FR)) hvs)), (List.forall_mem_cons.mpr ⟨(fun FR => ctH_mono (by decide) (ok_546 htr (sb := (sb.1, FR)) hvs)), (List.forall_mem_cons.mpr ⟨(fun FR => ctH_mono (by decide) (ok_547 htr (sb := (sb.1, FR)) hvs)), (List.forall_mem_cons.mpr ⟨(fun FR => ctH_mono (by decide) (ok_548 htr (sb := (sb.1, FR)) hvs)), (List.forall_mem_cons.mpr ⟨(fun FR => ctH_mono (by decide) (ok_549 htr (sb := (sb.1, FR)) hvs)), (List.forall_mem_cons.mpr ⟨(fun FR => ctH_mono (by decide) (ok_550 htr (sb := (sb.1, FR)) hvs)), (List.forall_mem_cons.mpr ⟨(fun FR => ctH_mono (by decide) (ok_551 htr (sb := (sb.1, FR)) hvs)), (fun _ h => absurd h List.not_mem_nil)⟩)⟩)⟩)⟩)⟩)⟩)⟩)⟩), (List.forall_mem_cons.mpr ⟨(List.forall_mem_cons.mpr ⟨(fun FR => ctH_mono (by decide) (ok_558 htr (sb := (sb.1, FR)) hvs)), (List.forall_mem_cons.mpr ⟨(fun FR => ctH_mono (by decide) (ok_559 htr (sb := (sb.1, FR)) hvs)), (fun _ h => absurd h List.not_mem_nil)⟩)⟩), (fun _ h => absurd h List.not_mem_nil)⟩)⟩)⟩) (n := 20000) (sp := sp_560) (isC := ic_560) (c0 := c_560_0) (K := K_560) (by decide +kernel) rfl (List.forall_mem_cons.mpr ⟨k_560_0, (List.forall_mem_cons.mpr ⟨k_560_1, (List.forall_mem_cons.mpr ⟨k_560_2, (List.forall_mem_cons.mpr ⟨k_560_3, (List.forall_mem_cons.mpr ⟨k_560_4, (List.forall_mem_cons.mpr ⟨k_560_5, (List.forall_mem_cons.mpr ⟨k_560_6, (List.forall_mem_cons.mpr ⟨k_560_7, (List.forall_mem_cons.mpr ⟨k_560_8, (List.forall_mem_cons.mpr ⟨k_560_9, (List.forall_mem_cons.mpr ⟨k_560_10, (List.forall_mem_cons.mpr ⟨k_560_11, (List.forall_mem_cons.mpr ⟨k_560_12, (List.forall_mem_cons.mpr ⟨k_560_13, (List.forall_mem_cons.mpr ⟨k_560_14, (List.forall_mem_cons.mpr ⟨k_560_15, (List.forall_mem_cons.mpr ⟨k_560_16, (List.forall_mem_cons.mpr ⟨k_560_17, (List.forall_mem_cons.mpr ⟨k_560_18, (List.forall_mem_cons.mpr ⟨k_560_19, (List.forall_mem_cons.mpr ⟨k_560_20, (List.forall_mem_cons.mpr ⟨k_560_21, (List.forall_mem_cons.mpr ⟨k_560_22, (List.forall_mem_cons.mpr ⟨k_560_23, (List.forall_mem_cons.mpr ⟨k_560_24, (fun _ h => absurd h List.not_mem_nil)⟩)⟩)⟩)⟩)⟩)⟩)⟩)⟩)⟩)⟩)⟩)⟩)⟩)⟩)⟩)⟩)⟩)⟩)⟩)⟩)⟩)⟩)⟩)⟩)⟩)
