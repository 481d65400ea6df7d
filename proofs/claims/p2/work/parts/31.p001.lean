/-! ===== CONTRACTS, 31.p001 ===== -/
set_option maxRecDepth 1000000 in
theorem k_413_0 : ckM 224 sp_413 us_413 ic_413 20000 55 36 os_413 (c_413_0 :: K_413) c_413_0 = true := by decide +kernel
set_option maxRecDepth 1000000 in
theorem k_413_1 : ckM 224 sp_413 us_413 ic_413 20000 55 36 os_413 (c_413_0 :: K_413) c_413_1 = true := by decide +kernel
set_option maxRecDepth 1000000 in
theorem k_413_2 : ckM 224 sp_413 us_413 ic_413 20000 55 36 os_413 (c_413_0 :: K_413) c_413_2 = true := by decide +kernel
set_option maxRecDepth 1000000 in
theorem k_413_3 : ckM 224 sp_413 us_413 ic_413 20000 55 36 os_413 (c_413_0 :: K_413) c_413_3 = true := by decide +kernel
set_option maxRecDepth 1000000 in
theorem k_413_4 : ckM 224 sp_413 us_413 ic_413 20000 55 36 os_413 (c_413_0 :: K_413) c_413_4 = true := by decide +kernel
set_option maxRecDepth 1000000 in
theorem k_413_5 : ckM 224 sp_413 us_413 ic_413 20000 55 36 os_413 (c_413_0 :: K_413) c_413_5 = true := by decide +kernel
set_option maxRecDepth 1000000 in
theorem k_413_6 : ckM 224 sp_413 us_413 ic_413 20000 55 36 os_413 (c_413_0 :: K_413) c_413_6 = true := by decide +kernel
set_option maxRecDepth 1000000 in
theorem k_413_7 : ckM 224 sp_413 us_413 ic_413 20000 55 36 os_413 (c_413_0 :: K_413) c_413_7 = true := by decide +kernel
set_option maxRecDepth 1000000 in
theorem k_413_8 : ckM 224 sp_413 us_413 ic_413 20000 55 36 os_413 (c_413_0 :: K_413) c_413_8 = true := by decide +kernel
set_option maxRecDepth 1000000 in
theorem k_413_9 : ckM 224 sp_413 us_413 ic_413 20000 55 36 os_413 (c_413_0 :: K_413) c_413_9 = true := by decide +kernel
set_option maxRecDepth 1000000 in
theorem k_413_10 : ckM 224 sp_413 us_413 ic_413 20000 55 36 os_413 (c_413_0 :: K_413) c_413_10 = true := by decide +kernel
set_option maxRecDepth 1000000 in
theorem k_413_11 : ckM 224 sp_413 us_413 ic_413 20000 55 36 os_413 (c_413_0 :: K_413) c_413_11 = true := by decide +kernel
set_option maxRecDepth 1000000 in
theorem k_413_12 : ckM 224 sp_413 us_413 ic_413 20000 55 36 os_413 (c_413_0 :: K_413) c_413_12 = true := by decide +kernel
set_option maxRecDepth 1000000 in
theorem k_413_13 : ckM 224 sp_413 us_413 ic_413 20000 55 36 os_413 (c_413_0 :: K_413) c_413_13 = true := by decide +kernel
set_option maxRecDepth 1000000 in
theorem k_413_14 : ckM 224 sp_413 us_413 ic_413 20000 55 36 os_413 (c_413_0 :: K_413) c_413_14 = true := by decide +kernel
set_option maxRecDepth 1000000 in
theorem k_413_15 : ckM 224 sp_413 us_413 ic_413 20000 55 36 os_413 (c_413_0 :: K_413) c_413_15 = true := by decide +kernel
set_option maxRecDepth 1000000 in
theorem k_413_16 : ckM 224 sp_413 us_413 ic_413 20000 55 36 os_413 (c_413_0 :: K_413) c_413_16 = true := by decide +kernel
set_option maxRecDepth 1000000 in
theorem k_413_17 : ckM 224 sp_413 us_413 ic_413 20000 55 36 os_413 (c_413_0 :: K_413) c_413_17 = true := by decide +kernel
set_option maxRecDepth 1000000 in
theorem k_413_18 : ckM 224 sp_413 us_413 ic_413 20000 55 36 os_413 (c_413_0 :: K_413) c_413_18 = true := by decide +kernel
set_option maxRecDepth 1000000 in
theorem k_413_19 : ckM 224 sp_413 us_413 ic_413 20000 55 36 os_413 (c_413_0 :: K_413) c_413_19 = true := by decide +kernel
set_option maxRecDepth 1000000 in
theorem k_413_20 : ckM 224 sp_413 us_413 ic_413 20000 55 36 os_413 (c_413_0 :: K_413) c_413_20 = true := by decide +kernel
set_option maxRecDepth 1000000 in
theorem k_413_21 : ckM 224 sp_413 us_413 ic_413 20000 55 36 os_413 (c_413_0 :: K_413) c_413_21 = true := by decide +kernel
set_option maxRecDepth 1000000 in
theorem k_413_22 : ckM 224 sp_413 us_413 ic_413 20000 55 36 os_413 (c_413_0 :: K_413) c_413_22 = true := by decide +kernel
set_option maxRecDepth 1000000 in
theorem k_413_23 : ckM 224 sp_413 us_413 ic_413 20000 55 36 os_413 (c_413_0 :: K_413) c_413_23 = true := by decide +kernel
set_option maxRecDepth 1000000 in
theorem k_413_24 : ckM 224 sp_413 us_413 ic_413 20000 55 36 os_413 (c_413_0 :: K_413) c_413_24 = true := by decide +kernel
set_option maxRecDepth 100000 in
theorem ok_413 {l : Launch} (htr : l.stackTraces = false) {sb : eSB} (hvs : sb.1 60 = 1) {D : va_G} {cA : Nat → ClassId} : ctH l sb D cA 224 49 as_413 B_413 hp_413 (os_413.map (fun w => w.1)) := ctH_of htr hvs (M := 224) (by decide) (lev := 48) (by decide) (L := us_413) (by decide +kernel) (List.forall_mem_cons.mpr ⟨(List.forall_mem_cons.mpr ⟨(fun FR => ctH_mono (by decide) (ok_305 htr (sb := (sb.1, FR)) hvs)), (fun _ h => absurd h List.not_mem_nil)⟩), (List.forall_mem_cons.mpr ⟨(List.forall_mem_cons.mpr ⟨(fun FR => ctH_mono (by decide) (ok_397 htr (sb := (sb.1, FR)) hvs)), (List.forall_mem_cons.mpr ⟨(fun FR => ctH_mono (by decide) (ok_398 htr (sb := (sb.1, FR)) hvs)), (List.forall_mem_cons.mpr ⟨(fun FR => ctH_mono (by decide) (ok_399 htr (sb := (sb.1, FR)) hvs)), (List.forall_mem_cons.mpr ⟨(fun FR => ctH_mono (by decide) (ok_400 htr (sb := (sb.1, FR)) hvs)), (List.forall_mem_cons.mpr ⟨(fun FR => ctH_mono (by decide) (ok_401 htr (sb := (sb.1, FR)) hvs)), (List.forall_mem_cons.mpr ⟨(fun FR => ctH_mono (by decide) (ok_402 htr (sb := (sb.1, FR)) hvs)), (List.forall_mem_cons.mpr ⟨(fun FR => ctH_mono (by decide) (ok_403 htr (sb := (sb.1, FR)) hvs)), (List.forall_mem_cons.mpr ⟨(fun FR => ctH_mono (by decide) (ok_404 htr (sb := (sb.1, FR)) hvs)), (fun _ h => absurd h List.not_mem_nil)⟩)⟩)⟩)⟩)⟩)⟩)⟩)⟩), (List.forall_mem_cons.mpr ⟨(List.forall_mem_cons.mpr ⟨(fun FR => ctH_mono (by decide) (ok_411 htr (sb := (sb.1, FR)) hvs)), (List.forall_mem_cons.mpr ⟨(fun FR => ctH_mono (by decide) (ok_412 htr (sb := (sb.1, FR)) hvs)), (fun _ h => absurd h List.not_mem_nil)⟩)⟩), (fun _ h => absurd h List.not_mem_nil)⟩)⟩)⟩) (n := 20000) (sp := sp_413) (isC := ic_413) (c0 := c_413_0) (K := K_413) (by decide +kernel) rfl (List.forall_mem_cons.mpr ⟨k_413_0, (List.forall_mem_cons.mpr ⟨k_413_1, (List.forall_mem_cons.mpr ⟨k_413_2, (List.forall_mem_cons.mpr ⟨k_413_3, (List.forall_mem_cons.mpr ⟨k_413_4, (List.forall_mem_cons.mpr ⟨k_413_5, (List.forall_mem_cons.mpr ⟨k_413_6, (List.forall_mem_cons.mpr ⟨k_413_7, (List.forall_mem_cons.mpr ⟨k_413_8, (List.forall_mem_cons.mpr ⟨k_413_9, (List.forall_mem_cons.mpr ⟨k_413_10, (List.forall_mem_cons.mpr ⟨k_413_11, (List.forall_mem_cons.mpr ⟨k_413_12, (List.forall_mem_cons.mpr ⟨k_413_13, (List.forall_mem_cons.mpr ⟨k_413_14, (List.forall_mem_cons.mpr ⟨k_413_15, (List.forall_mem_cons.mpr ⟨k_413_16, (List.forall_mem_cons.mpr ⟨k_413_17, (List.forall_mem_cons.mpr ⟨k_413_18, (List.forall_mem_cons.mpr ⟨k_413_19, (List.forall_mem_cons.mpr ⟨k_413_20, (List.forall_mem_cons.mpr ⟨k_413_21, (List.forall_mem_cons.mpr ⟨k_413_22, (List.forall_mem_cons.mpr ⟨k_413_23, (List.forall_mem_cons.mpr ⟨k_413_24, (fun _ h => absurd h List.not_mem_nil)⟩)⟩)⟩)⟩)⟩)⟩)⟩)⟩)⟩)⟩)⟩)⟩)⟩)⟩)⟩)⟩)⟩)⟩)⟩)⟩)⟩)⟩)⟩)⟩)⟩)
