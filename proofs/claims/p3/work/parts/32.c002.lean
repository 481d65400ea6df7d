/-! ===== CONTRACTS, 32.c002 ===== -/
set_option maxRecDepth 1000000 in
theorem k_51_3 : ckM 82 sp_51 us_51 ic_51 20000 7 15 os_51 (c_51_0 :: K_51) c_51_3 = true := by decide +kernel
set_option maxRecDepth 1000000 in
theorem k_51_4 : ckM 82 sp_51 us_51 ic_51 20000 7 15 os_51 (c_51_0 :: K_51) c_51_4 = true := by decide +kernel
set_option maxRecDepth 1000000 in
theorem k_51_5 : ckM 82 sp_51 us_51 ic_51 20000 7 15 os_51 (c_51_0 :: K_51) c_51_5 = true := by decide +kernel
set_option maxRecDepth 1000000 in
theorem k_51_6 : ckM 82 sp_51 us_51 ic_51 20000 7 15 os_51 (c_51_0 :: K_51) c_51_6 = true := by decide +kernel
set_option maxRecDepth 1000000 in
theorem k_51_7 : ckM 82 sp_51 us_51 ic_51 20000 7 15 os_51 (c_51_0 :: K_51) c_51_7 = true := by decide +kernel
set_option maxRecDepth 1000000 in
theorem k_51_8 : ckM 82 sp_51 us_51 ic_51 20000 7 15 os_51 (c_51_0 :: K_51) c_51_8 = true := by decide +kernel
set_option maxRecDepth 1000000 in
theorem k_51_9 : ckM 82 sp_51 us_51 ic_51 20000 7 15 os_51 (c_51_0 :: K_51) c_51_9 = true := by decide +kernel
set_option maxRecDepth 1000000 in
theorem k_51_10 : ckM 82 sp_51 us_51 ic_51 20000 7 15 os_51 (c_51_0 :: K_51) c_51_10 = true := by decide +kernel
set_option maxRecDepth 1000000 in
theorem k_51_11 : ckM 82 sp_51 us_51 ic_51 20000 7 15 os_51 (c_51_0 :: K_51) c_51_11 = true := by decide +kernel
set_option maxRecDepth 1000000 in
theorem k_51_12 : ckM 82 sp_51 us_51 ic_51 20000 7 15 os_51 (c_51_0 :: K_51) c_51_12 = true := by decide +kernel
set_option maxRecDepth 1000000 in
theorem k_51_13 : ckM 82 sp_51 us_51 ic_51 20000 7 15 os_51 (c_51_0 :: K_51) c_51_13 = true := by decide +kernel
set_option maxRecDepth 1000000 in
theorem k_51_14 : ckM 82 sp_51 us_51 ic_51 20000 7 15 os_51 (c_51_0 :: K_51) c_51_14 = true := by decide +kernel
set_option maxRecDepth 1000000 in
theorem k_51_15 : ckM 82 sp_51 us_51 ic_51 20000 7 15 os_51 (c_51_0 :: K_51) c_51_15 = true := by decide +kernel
set_option maxRecDepth 1000000 in
theorem k_51_16 : ckM 82 sp_51 us_51 ic_51 20000 7 15 os_51 (c_51_0 :: K_51) c_51_16 = true := by decide +kernel
set_option maxRecDepth 1000000 in
theorem k_51_17 : ckM 82 sp_51 us_51 ic_51 20000 7 15 os_51 (c_51_0 :: K_51) c_51_17 = true := by decide +kernel
set_option maxRecDepth 1000000 in
theorem k_51_18 : ckM 82 sp_51 us_51 ic_51 20000 7 15 os_51 (c_51_0 :: K_51) c_51_18 = true := by decide +kernel
set_option maxRecDepth 1000000 in
theorem k_51_19 : ckM 82 sp_51 us_51 ic_51 20000 7 15 os_51 (c_51_0 :: K_51) c_51_19 = true := by decide +kernel
set_option maxRecDepth 1000000 in
theorem k_51_20 : ckM 82 sp_51 us_51 ic_51 20000 7 15 os_51 (c_51_0 :: K_51) c_51_20 = true := by decide +kernel
set_option maxRecDepth 1000000 in
theorem k_51_21 : ckM 82 sp_51 us_51 ic_51 20000 7 15 os_51 (c_51_0 :: K_51) c_51_21 = true := by decide +kernel
set_option maxRecDepth 1000000 in
theorem k_51_22 : ckM 82 sp_51 us_51 ic_51 20000 7 15 os_51 (c_51_0 :: K_51) c_51_22 = true := by decide +kernel
set_option maxRecDepth 1000000 in
theorem k_51_23 : ckM 82 sp_51 us_51 ic_51 20000 7 15 os_51 (c_51_0 :: K_51) c_51_23 = true := by decide +kernel
set_option maxRecDepth 1000000 in
theorem k_51_24 : ckM 82 sp_51 us_51 ic_51 20000 7 15 os_51 (c_51_0 :: K_51) c_51_24 = true := by decide +kernel
set_option maxRecDepth 1000000 in
theorem k_51_25 : ckM 82 sp_51 us_51 ic_51 20000 7 15 os_51 (c_51_0 :: K_51) c_51_25 = true := by decide +kernel
set_option maxRecDepth 1000000 in
theorem k_51_26 : ckM 82 sp_51 us_51 ic_51 20000 7 15 os_51 (c_51_0 :: K_51) c_51_26 = true := by decide +kernel
set_option maxRecDepth 1000000 in
theorem k_51_27 : ckM 82 sp_51 us_51 ic_51 20000 7 15 os_51 (c_51_0 :: K_51) c_51_27 = true := by decide +kernel
set_option maxRecDepth 1000000 in
theorem k_51_28 : ckM 82 sp_51 us_51 ic_51 20000 7 15 os_51 (c_51_0 :: K_51) c_51_28 = true := by decide +kernel
set_option maxRecDepth 1000000 in
theorem k_51_29 : ckM 82 sp_51 us_51 ic_51 20000 7 15 os_51 (c_51_0 :: K_51) c_51_29 = true := by decide +kernel
set_option maxRecDepth 1000000 in
theorem k_51_30 : ckM 82 sp_51 us_51 ic_51 20000 7 15 os_51 (c_51_0 :: K_51) c_51_30 = true := by decide +kernel
set_option maxRecDepth 1000000 in
theorem k_51_31 : ckM 82 sp_51 us_51 ic_51 20000 7 15 os_51 (c_51_0 :: K_51) c_51_31 = true := by decide +kernel
set_option maxRecDepth 1000000 in
theorem k_51_32 : ckM 82 sp_51 us_51 ic_51 20000 7 15 os_51 (c_51_0 :: K_51) c_51_32 = true := by decide +kernel
set_option maxRecDepth 1000000 in
theorem k_51_33 : ckM 82 sp_51 us_51 ic_51 20000 7 15 os_51 (c_51_0 :: K_51) c_51_33 = true := by decide +kernel
set_option maxRecDepth 1000000 in
theorem k_51_34 : ckM 82 sp_51 us_51 ic_51 20000 7 15 os_51 (c_51_0 :: K_51) c_51_34 = true := by decide +kernel
set_option maxRecDepth 1000000 in
theorem k_51_35 : ckM 82 sp_51 us_51 ic_51 20000 7 15 os_51 (c_51_0 :: K_51) c_51_35 = true := by decide +kernel
set_option maxRecDepth 1000000 in
theorem k_51_36 : ckM 82 sp_51 us_51 ic_51 20000 7 15 os_51 (c_51_0 :: K_51) c_51_36 = true := by decide +kernel
set_option maxRecDepth 1000000 in
theorem k_51_37 : ckM 82 sp_51 us_51 ic_51 20000 7 15 os_51 (c_51_0 :: K_51) c_51_37 = true := by decide +kernel
set_option maxRecDepth 1000000 in
theorem k_51_38 : ckM 82 sp_51 us_51 ic_51 20000 7 15 os_51 (c_51_0 :: K_51) c_51_38 = true := by decide +kernel
set_option maxRecDepth 1000000 in
theorem k_51_39 : ckM 82 sp_51 us_51 ic_51 20000 7 15 os_51 (c_51_0 :: K_51) c_51_39 = true := by decide +kernel
set_option maxRecDepth 1000000 in
theorem k_51_40 : ckM 82 sp_51 us_51 ic_51 20000 7 15 os_51 (c_51_0 :: K_51) c_51_40 = true := by decide +kernel
set_option maxRecDepth 1000000 in
theorem k_51_41 : ckM 82 sp_51 us_51 ic_51 20000 7 15 os_51 (c_51_0 :: K_51) c_51_41 = true := by decide +kernel
set_option maxRecDepth 1000000 in
theorem k_51_42 : ckM 82 sp_51 us_51 ic_51 20000 7 15 os_51 (c_51_0 :: K_51) c_51_42 = true := by decide +kernel
set_option maxRecDepth 1000000 in
theorem k_51_43 : ckM 82 sp_51 us_51 ic_51 20000 7 15 os_51 (c_51_0 :: K_51) c_51_43 = true := by decide +kernel
set_option maxRecDepth 1000000 in
theorem k_51_44 : ckM 82 sp_51 us_51 ic_51 20000 7 15 os_51 (c_51_0 :: K_51) c_51_44 = true := by decide +kernel
set_option maxRecDepth 1000000 in
theorem k_51_45 : ckM 82 sp_51 us_51 ic_51 20000 7 15 os_51 (c_51_0 :: K_51) c_51_45 = true := by decide +kernel
set_option maxRecDepth 1000000 in
theorem k_51_46 : ckM 82 sp_51 us_51 ic_51 20000 7 15 os_51 (c_51_0 :: K_51) c_51_46 = true := by decide +kernel
set_option maxRecDepth 1000000 in
theorem k_51_47 : ckM 82 sp_51 us_51 ic_51 20000 7 15 os_51 (c_51_0 :: K_51) c_51_47 = true := by decide +kernel
set_option maxRecDepth 1000000 in
theorem k_51_48 : ckM 82 sp_51 us_51 ic_51 20000 7 15 os_51 (c_51_0 :: K_51) c_51_48 = true := by decide +kernel
set_option maxRecDepth 1000000 in
theorem k_51_49 : ckM 82 sp_51 us_51 ic_51 20000 7 15 os_51 (c_51_0 :: K_51) c_51_49 = true := by decide +kernel
set_option maxRecDepth 1000000 in
theorem k_51_50 : ckM 82 sp_51 us_51 ic_51 20000 7 15 os_51 (c_51_0 :: K_51) c_51_50 = true := by decide +kernel
set_option maxRecDepth 1000000 in
theorem k_51_51 : ckM 82 sp_51 us_51 ic_51 20000 7 15 os_51 (c_51_0 :: K_51) c_51_51 = true := by decide +kernel
set_option maxRecDepth 1000000 in
theorem k_51_52 : ckM 82 sp_51 us_51 ic_51 20000 7 15 os_51 (c_51_0 :: K_51) c_51_52 = true := by decide +kernel
set_option maxRecDepth 1000000 in
theorem k_51_53 : ckM 82 sp_51 us_51 ic_51 20000 7 15 os_51 (c_51_0 :: K_51) c_51_53 = true := by decide +kernel
set_option maxRecDepth 1000000 in
theorem k_51_54 : ckM 82 sp_51 us_51 ic_51 20000 7 15 os_51 (c_51_0 :: K_51) c_51_54 = true := by decide +kernel
set_option maxRecDepth 1000000 in
theorem k_51_55 : ckM 82 sp_51 us_51 ic_51 20000 7 15 os_51 (c_51_0 :: K_51) c_51_55 = true := by decide +kernel
set_option maxRecDepth 1000000 in
theorem k_51_56 : ckM 82 sp_51 us_51 ic_51 20000 7 15 os_51 (c_51_0 :: K_51) c_51_56 = true := by decide +kernel
set_option maxRecDepth 1000000 in
theorem k_51_57 : ckM 82 sp_51 us_51 ic_51 20000 7 15 os_51 (c_51_0 :: K_51) c_51_57 = true := by decide +kernel
set_option maxRecDepth 1000000 in
theorem k_51_58 : ckM 82 sp_51 us_51 ic_51 20000 7 15 os_51 (c_51_0 :: K_51) c_51_58 = true := by decide +kernel
set_option maxRecDepth 1000000 in
theorem k_51_59 : ckM 82 sp_51 us_51 ic_51 20000 7 15 os_51 (c_51_0 :: K_51) c_51_59 = true := by decide +kernel
set_option maxRecDepth 1000000 in
theorem k_51_60 : ckM 82 sp_51 us_51 ic_51 20000 7 15 os_51 (c_51_0 :: K_51) c_51_60 = true := by decide +kernel
set_option maxRecDepth 1000000 in
theorem k_51_61 : ckM 82 sp_51 us_51 ic_51 20000 7 15 os_51 (c_51_0 :: K_51) c_51_61 = true := by decide +kernel
set_option maxRecDepth 100000 in
theorem ok_51 {l : Launch} (htr : l.stackTraces = false) {sb : eSB} (hvs : sb.1 60 = 1) {D : va_G} {cA : Nat → ClassId} : ctH l sb D cA 82 10 as_51 B_51 hp_51 (os_51.map (fun w => w.1)) := ctH_of htr hvs (M := 82) (by decide) (lev := 9) (by decide) (L := us_51) (by decide +kernel) (List.forall_mem_cons.mpr ⟨(List.forall_mem_cons.mpr ⟨(fun FR => ctH_mono (by decide) (ok_50 htr (sb := (sb.1, FR)) hvs)), (fun _ h => absurd h List.not_mem_nil)⟩), (List.forall_mem_cons.mpr ⟨(List.forall_mem_cons.mpr ⟨(fun FR => ctH_mono (by decide) (ok_17 htr (sb := (sb.1, FR)) hvs)), (fun _ h => absurd h List.not_mem_nil)⟩), (fun _ h => absurd h List.not_mem_nil)⟩)⟩) (n := 20000) (sp := sp_51) (isC := ic_51) (c0 := c_51_0) (K := K_51) (by decide +kernel) rfl (List.forall_mem_cons.mpr ⟨k_51_0, (List.forall_mem_cons.mpr ⟨k_51_1, (List.forall_mem_cons.mpr ⟨k_51_2, (List.forall_mem_cons.mpr ⟨k_51_3, (List.forall_mem_cons.mpr ⟨k_51_4, (List.forall_mem_cons.mpr ⟨k_51_5, (List.forall_mem_cons.mpr ⟨k_51_6, (List.forall_mem_cons.mpr ⟨k_51_7, (List.forall_mem_cons.mpr ⟨k_51_8, (List.forall_mem_cons.mpr ⟨k_51_9, (List.forall_mem_cons.mpr ⟨k_51_10, (List.forall_mem_cons.mpr ⟨k_51_11, (List.forall_mem_cons.mpr ⟨k_51_12, (List.forall_mem_cons.mpr ⟨k_51_13, (List.forall_mem_cons.mpr ⟨k_51_14, (List.forall_mem_cons.mpr ⟨k_51_15, (List.forall_mem_cons.mpr ⟨k_51_16, (List.forall_mem_cons.mpr ⟨k_51_17, (List.forall_mem_cons.mpr ⟨k_51_18, (List.forall_mem_cons.mpr ⟨k_51_19, (List.forall_mem_cons.mpr ⟨k_51_20, (List.forall_mem_cons.mpr ⟨k_51_21, (List.forall_mem_cons.mpr ⟨k_51_22, (List.forall_mem_cons.mpr ⟨k_51_23, (List.forall_mem_cons.mpr ⟨k_51_24, (List.forall_mem_cons.mpr ⟨k_51_25, (List.forall_mem_cons.mpr ⟨k_51_26, (List.forall_mem_cons.mpr ⟨k_51_27, (List.forall_mem_cons.mpr ⟨k_51_28, (List.forall_mem_cons.mpr ⟨k_51_29, (List.forall_mem_cons.mpr ⟨k_51_30, (List.forall_mem_cons.mpr ⟨k_51_31, (List.forall_mem_cons.mpr ⟨k_51_32, (List.forall_mem_cons.mpr ⟨k_51_33, (List.forall_mem_cons.mpr ⟨k_51_34, (List.forall_mem_cons.mpr ⟨k_51_35, (List.forall_mem_cons.mpr ⟨k_51_36, (List.forall_mem_cons.mpr ⟨k_51_37, (List.forall_mem_cons.mpr ⟨k_51_38, (List.forall_mem_cons.mpr ⟨k_51_39, (List.forall_mem_cons.mpr ⟨k_51_40, (List.forall_mem_cons.mpr ⟨k_51_41, (List.forall_mem_cons.mpr ⟨k_51_42, (List.forall_mem_cons.mpr ⟨k_51_43, (List.forall_mem_cons.mpr ⟨k_51_44, (List.forall_mem_cons.mpr ⟨k_51_45, (List.forall_mem_cons.mpr ⟨k_51_46, (List.forall_mem_cons.mpr ⟨k_51_47, (List.forall_mem_cons.mpr ⟨k_51_48, (List.forall_mem_cons.mpr ⟨k_51_49, (List.forall_mem_cons.mpr ⟨k_51_50, (List.forall_mem_cons.mpr ⟨k_51_51, (List.forall_mem_cons.mpr ⟨k_51_52, (List.forall_mem_cons.mpr ⟨k_51_53, (List.forall_mem_cons.mpr ⟨k_51_54, (List.forall_mem_cons.mpr ⟨k_51_55, (List.forall_mem_cons.mpr ⟨k_51_56, (List.forall_mem_cons.mpr ⟨k_51_57, (List.forall_mem_cons.mpr ⟨k_51_58, (List.forall_mem_cons.mpr ⟨k_51_59, (List.forall_mem_cons.mpr ⟨k_51_60, (List.forall_mem_cons.mpr ⟨k_51_61, (fun _ h => absurd h List.not_mem_nil)⟩)⟩)⟩)⟩)⟩)⟩)⟩)⟩)⟩)⟩)⟩)⟩)⟩)⟩)⟩)⟩)⟩)⟩)⟩)⟩)⟩)⟩)⟩)⟩)⟩)⟩)⟩)⟩)⟩)⟩)⟩)⟩)⟩)⟩)⟩)⟩)⟩)⟩)⟩)⟩)⟩)⟩)⟩)⟩)⟩)⟩)⟩)⟩)⟩)⟩)⟩)⟩)⟩)⟩)⟩)⟩)⟩)⟩)⟩)⟩)⟩)⟩)
/-! BalconyPort$Plan.findNeighbours -/
def as_52 : List eV := [(2, 0, 0, 0)]
def B_52 : eB := ([(0, 10), (0, 10), (0, 10), (0, 700)], [])
def hp_52 : eH := [.inl (3, [(0, 4097, 0, 10), (0, 12289, 0, 10), (0, 20481, 0, 10), (0, 28673, 0, 700), (2, 1, 0, 0), (2, 2, 0, 0), (2, 3, 0, 0), (2, 4, 0, 0), (2, 5, 0, 0), (2, 6, 0, 0), (2, 7, 0, 0), (2, 8, 0, 0), (2, 9, 0, 0), (2, 10, 0, 0), (2, 11, 0, 0)]), fr9 1, fr9 2, fr9 3, .inr (3, 4, (9, 0, 10, 0), [(1000000, (0, 0, 0, 3))]), fr9 5, fr9 6, fr9 7, fr9 8, fr9 9, .inr (0, 4, (0, 0, 0, 1023), []), .inr (0, 10, (0, 0, 0, 1023), [])]
def th_52 : List (Option eP) := [some (1, 0, 0), some (1, 0, 1), some (1, 0, 2), some (1, 0, 3)]
def os_52 : List (eO × List (Option eP)) := [((0, none, (B_52.1, []), hp_52), nTh 4 [])]
def cd_52 (φ : List Nat) : eCd := (as_52, B_52, hp_52, th_52, os_52.map (fun w => w.1), φ)
def us_52 : eUs := [(5, 280, [cd_1 [10]])]
def sp_52 : List (Nat × Nat) := []
def ic_52 (pc : Nat) : Bool := bif Nat.beq pc 10 then true else (false)
def c_52_0 : eCut := ((0, eArgs 0 as_52, [], B_52, hp_52, 0, 0), [], [(900000, 0, 0), (0, 0, 0)])
def c_52_1 : eCut := ((10, [(0, (2, 0, 0, 0)), (1, (0, 36865, 0, 10))], [], (B_52.1 ++ [(0, 10)], []), hp_52, 0, 0), nTh 4 [(0, 1, 0)], [(1, 0, 0), (10, (-1), 4)])
def K_52 : List eCut := [c_52_1]
set_option maxRecDepth 1000000 in
theorem k_52_0 : ckM 22 sp_52 us_52 ic_52 20000 4 12 os_52 (c_52_0 :: K_52) c_52_0 = true := by decide +kernel
set_option maxRecDepth 1000000 in
theorem k_52_1 : ckM 22 sp_52 us_52 ic_52 20000 4 12 os_52 (c_52_0 :: K_52) c_52_1 = true := by decide +kernel
set_option maxRecDepth 100000 in
theorem ok_52 {l : Launch} (htr : l.stackTraces = false) {sb : eSB} (hvs : sb.1 60 = 1) {D : va_G} {cA : Nat → ClassId} : ctH l sb D cA 22 7 as_52 B_52 hp_52 (os_52.map (fun w => w.1)) := ctH_of htr hvs (M := 22) (by decide) (lev := 6) (by decide) (L := us_52) (by decide +kernel) (List.forall_mem_cons.mpr ⟨(List.forall_mem_cons.mpr ⟨(fun FR => ctH_mono (by decide) (ok_1 htr (sb := (sb.1, FR)) hvs)), (fun _ h => absurd h List.not_mem_nil)⟩), (fun _ h => absurd h List.not_mem_nil)⟩) (n := 20000) (sp := sp_52) (isC := ic_52) (c0 := c_52_0) (K := K_52) (by decide +kernel) rfl (List.forall_mem_cons.mpr ⟨k_52_0, (List.forall_mem_cons.mpr ⟨k_52_1, (fun _ h => absurd h List.not_mem_nil)⟩)⟩)
/-! BalconyPort$Plan.copyFrom -/
def as_53 : List eV := [(2, 0, 0, 0), (2, 12, 0, 0)]
def B_53 : eB := ([(0, 10), (0, 10), (0, 10), (0, 700), (0, 10), (0, 10), (0, 10), (0, 700)], [])
def hp_53 : eH := [.inl (3, [(0, 4097, 0, 10), (0, 12289, 0, 10), (0, 20481, 0, 10), (0, 28673, 0, 700), (2, 1, 0, 0), (2, 2, 0, 0), (2, 3, 0, 0), (2, 4, 0, 0), (2, 5, 0, 0), (2, 6, 0, 0), (2, 7, 0, 0), (2, 8, 0, 0), (2, 9, 0, 0), (2, 10, 0, 0), (2, 11, 0, 0)]), .inr (0, 10, (0, 0, 0, 20), []), .inr (0, 10, (0, 0, 0, 9), []), .inr (0, 10, (0, 0, 0, 9), []), .inr (0, 10, (0, 0, 0, 3), []), .inr (0, 10, (0, 0, 0, 9), []), .inr (0, 10, (0, 0, 0, 20), []), .inr (0, 3, (0, 0, 1, 9), [(0, (0, 0, 1, 99))]), .inr (0, 10, (0, 0, 0, 9), []), .inr (0, 700, eTop, []), .inr (0, 4, (0, 0, 0, 1023), []), .inr (0, 10, (0, 0, 0, 1023), []), .inl (3, [(0, 36865, 0, 10), (0, 45057, 0, 10), (0, 53249, 0, 10), (0, 61441, 0, 700), (2, 13, 0, 0), (2, 14, 0, 0), (2, 15, 0, 0), (2, 16, 0, 0), (2, 17, 0, 0), (2, 18, 0, 0), (2, 19, 0, 0), (2, 20, 0, 0), (2, 21, 0, 0), (2, 22, 0, 0), (2, 23, 0, 0)]), .inr (0, 10, (0, 0, 0, 20), []), .inr (0, 10, (0, 0, 0, 9), []), .inr (0, 10, (0, 0, 0, 9), []), .inr (0, 10, (0, 0, 0, 3), []), .inr (0, 10, (0, 0, 0, 9), []), .inr (0, 10, (0, 0, 0, 20), []), .inr (0, 3, (0, 0, 1, 9), [(0, (0, 0, 1, 99))]), .inr (0, 10, (0, 0, 0, 9), []), .inr (0, 700, eTop, []), fr9 22, fr9 23]
def th_53 : List (Option eP) := [some (1, 0, 0), some (1, 0, 1), some (1, 0, 2), some (1, 0, 3), some (1, 12, 0), some (1, 12, 1), some (1, 12, 2), some (1, 12, 3)]
def os_53 : List (eO × List (Option eP)) := [((0, none, (B_53.1, []), hS hp_53 [(0, oS hp_53 0 [(0, (0, 36865, 0, 10)), (1, (0, 45057, 0, 10)), (2, (0, 53249, 0, 10)), (3, (0, 61441, 0, 700))])]), nTh 8 [])]
def cd_53 (φ : List Nat) : eCd := (as_53, B_53, hp_53, th_53, os_53.map (fun w => w.1), φ)
def us_53 : eUs := [(169, 22, [cd_52 [0, 1, 2, 3, 4, 5, 6, 7, 8, 9, 10, 11]])]
def sp_53 : List (Nat × Nat) := []
def ic_53 (pc : Nat) : Bool := false
def c_53_0 : eCut := ((0, eArgs 0 as_53, [], B_53, hp_53, 0, 0), [], [(900000, 0, 0)])
def K_53 : List eCut := []
set_option maxRecDepth 1000000 in
theorem k_53_0 : ckM 21 sp_53 us_53 ic_53 20000 8 24 os_53 (c_53_0 :: K_53) c_53_0 = true := by decide +kernel
set_option maxRecDepth 100000 in
theorem ok_53 {l : Launch} (htr : l.stackTraces = false) {sb : eSB} (hvs : sb.1 60 = 1) {D : va_G} {cA : Nat → ClassId} : ctH l sb D cA 21 8 as_53 B_53 hp_53 (os_53.map (fun w => w.1)) := ctH_of htr hvs (M := 21) (by decide) (lev := 7) (by decide) (L := us_53) (by decide +kernel) (List.forall_mem_cons.mpr ⟨(List.forall_mem_cons.mpr ⟨(fun FR => ctH_mono (by decide) (ok_52 htr (sb := (sb.1, FR)) hvs)), (fun _ h => absurd h List.not_mem_nil)⟩), (fun _ h => absurd h List.not_mem_nil)⟩) (n := 20000) (sp := sp_53) (isC := ic_53) (c0 := c_53_0) (K := K_53) (by decide +kernel) rfl (List.forall_mem_cons.mpr ⟨k_53_0, (fun _ h => absurd h List.not_mem_nil)⟩)
/-! BalconyPort$Scene.begin -/
def as_54 : List eV := [(2, 0, 0, 0)]
def B_54 : eB := ([(0, 10), (0, 10), (0, 10), (0, 700), (0, 999)], [])
def hp_54 : eH := [.inl (5, [(2, 1, 0, 0), (2, 13, 0, 0), (2, 14, 0, 0)]), .inl (3, [(0, 4097, 0, 10), (0, 12289, 0, 10), (0, 20481, 0, 10), (0, 28673, 0, 700), (2, 2, 0, 0), (2, 3, 0, 0), (2, 4, 0, 0), (2, 5, 0, 0), (2, 6, 0, 0), (2, 7, 0, 0), (2, 8, 0, 0), (2, 9, 0, 0), (2, 10, 0, 0), (2, 11, 0, 0), (2, 12, 0, 0)]), fr9 2, fr9 3, .inr (3, 4, (9, 0, 10, 0), [(1000000, (0, 0, 0, 9))]), fr9 5, .inr (3, 6, (9, 0, 10, 0), [(1000000, (0, 0, 0, 9))]), .inr (3, 7, (9, 0, 10, 0), [(1000000, (0, 0, 0, 20))]), fr9 8, fr9 9, fr9 10, fr9 11, fr9 12, .inr (0, 82, eTop, [(0, (0, 36865, 0, 999)), (5, (0, 0, 0, 1023)), (6, (0, 0, 0, 1023)), (7, (0, 0, 0, 1023)), (8, (0, 0, 0, 1023)), (9, (0, 0, 0, 1023)), (12, (0, 0, 0, 4)), (13, (0, 0, 0, 4)), (14, (0, 0, 0, 4)), (15, (0, 0, 0, 4)), (16, (0, 0, 0, 4)), (17, (0, 0, 0, 4)), (18, (0, 0, 0, 4)), (19, (0, 0, 0, 4)), (20, (0, 0, 0, 4)), (21, (0, 0, 0, 4)), (22, (0, 0, (-1), 9)), (23, (0, 0, (-1), 9)), (24, (0, 0, (-1), 9)), (25, (0, 0, (-1), 9)), (26, (0, 0, (-1), 9)), (27, (0, 0, (-1), 9)), (28, (0, 0, (-1), 9)), (29, (0, 0, (-1), 9)), (30, (0, 0, (-1), 9)), (31, (0, 0, (-1), 9)), (42, (0, 0, 0, 9)), (43, (0, 0, 0, 9)), (44, (0, 0, 0, 9)), (45, (0, 0, 0, 9)), (46, (0, 0, 0, 9)), (47, (0, 0, 0, 9)), (48, (0, 0, 0, 9)), (49, (0, 0, 0, 9)), (50, (0, 0, 0, 9)), (51, (0, 0, 0, 9)), (62, (0, 0, 0, 9)), (63, (0, 0, 0, 9)), (64, (0, 0, 0, 9)), (65, (0, 0, 0, 9)), (66, (0, 0, 0, 9)), (67, (0, 0, 0, 9)), (68, (0, 0, 0, 9)), (69, (0, 0, 0, 9)), (70, (0, 0, 0, 9)), (71, (0, 0, 0, 9))]), fr9 14]
def th_54 : List (Option eP) := [some (1, 1, 0), some (1, 1, 1), some (1, 1, 2), some (1, 1, 3), some (2, 13, 0)]
def os_54 : List (eO × List (Option eP)) := [((0, none, (B_54.1, []), hS hp_54 [(13, .inr (0, 82, eTop, [(0, (0, 0, 0, 999)), (5, (0, 0, 0, 1023)), (6, (0, 0, 0, 1023)), (7, (0, 0, 0, 1023)), (8, (0, 0, 0, 1023)), (9, (0, 0, 0, 1023)), (12, (0, 0, 0, 4)), (13, (0, 0, 0, 4)), (14, (0, 0, 0, 4)), (15, (0, 0, 0, 4)), (16, (0, 0, 0, 4)), (17, (0, 0, 0, 4)), (18, (0, 0, 0, 4)), (19, (0, 0, 0, 4)), (20, (0, 0, 0, 4)), (21, (0, 0, 0, 4)), (22, (0, 0, (-1), 9)), (23, (0, 0, (-1), 9)), (24, (0, 0, (-1), 9)), (25, (0, 0, (-1), 9)), (26, (0, 0, (-1), 9)), (27, (0, 0, (-1), 9)), (28, (0, 0, (-1), 9)), (29, (0, 0, (-1), 9)), (30, (0, 0, (-1), 9)), (31, (0, 0, (-1), 9)), (42, (0, 0, 0, 9)), (43, (0, 0, 0, 9)), (44, (0, 0, 0, 9)), (45, (0, 0, 0, 9)), (46, (0, 0, 0, 9)), (47, (0, 0, 0, 9)), (48, (0, 0, 0, 9)), (49, (0, 0, 0, 9)), (50, (0, 0, 0, 9)), (51, (0, 0, 0, 9)), (62, (0, 0, 0, 9)), (63, (0, 0, 0, 9)), (64, (0, 0, 0, 9)), (65, (0, 0, 0, 9)), (66, (0, 0, 0, 9)), (67, (0, 0, 0, 9)), (68, (0, 0, 0, 9)), (69, (0, 0, 0, 9)), (70, (0, 0, 0, 9)), (71, (0, 0, 0, 9))]))]), nTh 5 [])]
def cd_54 (φ : List Nat) : eCd := (as_54, B_54, hp_54, th_54, os_54.map (fun w => w.1), φ)
def us_54 : eUs := [(5, 280, [cd_0 [13]])]
def sp_54 : List (Nat × Nat) := []
def ic_54 (pc : Nat) : Bool := bif Nat.beq pc 27 then true else (false)
def c_54_0 : eCut := ((0, eArgs 0 as_54, [], B_54, hp_54, 0, 0), [], [(900000, 0, 0), (0, 0, 0)])
def c_54_1 : eCut := ((27, [(0, (2, 0, 0, 0)), (1, (0, 45057, 0, 10))], [], (B_54.1 ++ [(0, 10)], []), hS hp_54 [(13, .inr (0, 82, eTop, [(0, (0, 0, 0, 999)), (5, (0, 0, 0, 1023)), (6, (0, 0, 0, 1023)), (7, (0, 0, 0, 1023)), (8, (0, 0, 0, 1023)), (9, (0, 0, 0, 1023)), (12, (0, 0, 0, 4)), (13, (0, 0, 0, 4)), (14, (0, 0, 0, 4)), (15, (0, 0, 0, 4)), (16, (0, 0, 0, 4)), (17, (0, 0, 0, 4)), (18, (0, 0, 0, 4)), (19, (0, 0, 0, 4)), (20, (0, 0, 0, 4)), (21, (0, 0, 0, 4)), (22, (0, 0, (-1), 9)), (23, (0, 0, (-1), 9)), (24, (0, 0, (-1), 9)), (25, (0, 0, (-1), 9)), (26, (0, 0, (-1), 9)), (27, (0, 0, (-1), 9)), (28, (0, 0, (-1), 9)), (29, (0, 0, (-1), 9)), (30, (0, 0, (-1), 9)), (31, (0, 0, (-1), 9)), (42, (0, 0, 0, 9)), (43, (0, 0, 0, 9)), (44, (0, 0, 0, 9)), (45, (0, 0, 0, 9)), (46, (0, 0, 0, 9)), (47, (0, 0, 0, 9)), (48, (0, 0, 0, 9)), (49, (0, 0, 0, 9)), (50, (0, 0, 0, 9)), (51, (0, 0, 0, 9)), (62, (0, 0, 0, 9)), (63, (0, 0, 0, 9)), (64, (0, 0, 0, 9)), (65, (0, 0, 0, 9)), (66, (0, 0, 0, 9)), (67, (0, 0, 0, 9)), (68, (0, 0, 0, 9)), (69, (0, 0, 0, 9)), (70, (0, 0, 0, 9)), (71, (0, 0, 0, 9))]))], 0, 0), nTh 5 [(0, 1, 0)], [(1, 0, 0), (10, (-1), 5)])
def K_54 : List eCut := [c_54_1]
set_option maxRecDepth 1000000 in
theorem k_54_0 : ckM 55 sp_54 us_54 ic_54 20000 5 15 os_54 (c_54_0 :: K_54) c_54_0 = true := by decide +kernel
set_option maxRecDepth 1000000 in
theorem k_54_1 : ckM 55 sp_54 us_54 ic_54 20000 5 15 os_54 (c_54_0 :: K_54) c_54_1 = true := by decide +kernel
set_option maxRecDepth 100000 in
theorem ok_54 {l : Launch} (htr : l.stackTraces = false) {sb : eSB} (hvs : sb.1 60 = 1) {D : va_G} {cA : Nat → ClassId} : ctH l sb D cA 55 7 as_54 B_54 hp_54 (os_54.map (fun w => w.1)) := ctH_of htr hvs (M := 55) (by decide) (lev := 6) (by decide) (L := us_54) (by decide +kernel) (List.forall_mem_cons.mpr ⟨(List.forall_mem_cons.mpr ⟨(fun FR => ctH_mono (by decide) (ok_0 htr (sb := (sb.1, FR)) hvs)), (fun _ h => absurd h List.not_mem_nil)⟩), (fun _ h => absurd h List.not_mem_nil)⟩) (n := 20000) (sp := sp_54) (isC := ic_54) (c0 := c_54_0) (K := K_54) (by decide +kernel) rfl (List.forall_mem_cons.mpr ⟨k_54_0, (List.forall_mem_cons.mpr ⟨k_54_1, (fun _ h => absurd h List.not_mem_nil)⟩)⟩)
/-! BalconyPort$Seen.lastDay -/
def as_55 : List eV := [(2, 0, 0, 0)]
def B_55 : eB := ([(0, 8)], [])
def hp_55 : eH := [.inl (6, [(0, 4097, 0, 8), (2, 1, 0, 0), (2, 2, 0, 0)]), .inr (3, 1, (9, 0, 8, 0), [(1000000, (0, 0, 0, 30))]), fr9 2]
def th_55 : List (Option eP) := [some (1, 0, 0)]
def os_55 : List (eO × List (Option eP)) := [((0, some (0, 12289, 0, 30), (B_55.1 ++ [(0, 30)], []), hp_55), nTh 1 [(0, 0, 0)])]
def cd_55 (φ : List Nat) : eCd := (as_55, B_55, hp_55, th_55, os_55.map (fun w => w.1), φ)
def us_55 : eUs := []
def sp_55 : List (Nat × Nat) := []
def ic_55 (pc : Nat) : Bool := bif Nat.beq pc 4 then true else (false)
def c_55_0 : eCut := ((0, eArgs 0 as_55, [], B_55, hp_55, 0, 0), [], [(900000, 0, 0), (0, 0, 0)])
def c_55_1 : eCut := ((4, [(0, (2, 0, 0, 0)), (1, (0, 12289, 0, 30)), (2, (0, 20481, 0, 8))], [], (B_55.1 ++ [(0, 30), (0, 8)], []), hp_55, 0, 0), nTh 1 [(0, 1, 0), (0, 2, 0)], [(1, 0, 0), (8, (-1), 2)])
def K_55 : List eCut := [c_55_1]
set_option maxRecDepth 1000000 in
theorem k_55_0 : ckM 107 sp_55 us_55 ic_55 20000 1 3 os_55 (c_55_0 :: K_55) c_55_0 = true := by decide +kernel
set_option maxRecDepth 1000000 in
theorem k_55_1 : ckM 107 sp_55 us_55 ic_55 20000 1 3 os_55 (c_55_0 :: K_55) c_55_1 = true := by decide +kernel
set_option maxRecDepth 100000 in
theorem ok_55 {l : Launch} (htr : l.stackTraces = false) {sb : eSB} (hvs : sb.1 60 = 1) {D : va_G} {cA : Nat → ClassId} : ctH l sb D cA 107 6 as_55 B_55 hp_55 (os_55.map (fun w => w.1)) := ctH_of htr hvs (M := 107) (by decide) (lev := 5) (by decide) (L := us_55) (by decide +kernel) (fun _ h => absurd h List.not_mem_nil) (n := 20000) (sp := sp_55) (isC := ic_55) (c0 := c_55_0) (K := K_55) (by decide +kernel) rfl (List.forall_mem_cons.mpr ⟨k_55_0, (List.forall_mem_cons.mpr ⟨k_55_1, (fun _ h => absurd h List.not_mem_nil)⟩)⟩)
/-! BalconyPort$Seen.allows -/
def as_56 : List eV := [(2, 0, 0, 0), (0, 12289, 0, 30), (0, 20481, 0, 90)]
def B_56 : eB := ([(0, 8), (0, 30), (0, 90)], [])
def hp_56 : eH := [.inl (6, [(0, 4097, 0, 8), (2, 1, 0, 0), (2, 2, 0, 0)]), .inr (3, 1, (9, 0, 8, 0), [(1000000, (0, 0, 0, 30))]), .inr (3, 2, (9, 0, 8, 0), [(1000000, (0, 0, 0, 99))])]
def th_56 : List (Option eP) := [some (1, 0, 0), some (0, 1, 0), some (0, 2, 0)]
def os_56 : List (eO × List (Option eP)) := [((0, some (0, 28673, 0, 1), (B_56.1 ++ [(0, 1)], []), hp_56), nTh 3 [(0, 0, 0)])]
def cd_56 (φ : List Nat) : eCd := (as_56, B_56, hp_56, th_56, os_56.map (fun w => w.1), φ)
def us_56 : eUs := []
def sp_56 : List (Nat × Nat) := []
def ic_56 (pc : Nat) : Bool := bif Nat.beq pc 2 then true else (false)
def c_56_0 : eCut := ((0, eArgs 0 as_56, [], B_56, hp_56, 0, 0), [], [(900000, 0, 0), (0, 0, 0)])
def c_56_1 : eCut := ((2, [(0, (2, 0, 0, 0)), (1, (0, 12289, 0, 30)), (2, (0, 20481, 0, 90)), (3, (0, 28673, 0, 8))], [], (B_56.1 ++ [(0, 8)], []), hp_56, 0, 0), nTh 3 [(0, 3, 0)], [(1, 0, 0), (8, (-1), 3)])
def K_56 : List eCut := [c_56_1]
set_option maxRecDepth 1000000 in
theorem k_56_0 : ckM 105 sp_56 us_56 ic_56 20000 3 3 os_56 (c_56_0 :: K_56) c_56_0 = true := by decide +kernel
set_option maxRecDepth 1000000 in
theorem k_56_1 : ckM 105 sp_56 us_56 ic_56 20000 3 3 os_56 (c_56_0 :: K_56) c_56_1 = true := by decide +kernel
set_option maxRecDepth 100000 in
theorem ok_56 {l : Launch} (htr : l.stackTraces = false) {sb : eSB} (hvs : sb.1 60 = 1) {D : va_G} {cA : Nat → ClassId} : ctH l sb D cA 105 6 as_56 B_56 hp_56 (os_56.map (fun w => w.1)) := ctH_of htr hvs (M := 105) (by decide) (lev := 5) (by decide) (L := us_56) (by decide +kernel) (fun _ h => absurd h List.not_mem_nil) (n := 20000) (sp := sp_56) (isC := ic_56) (c0 := c_56_0) (K := K_56) (by decide +kernel) rfl (List.forall_mem_cons.mpr ⟨k_56_0, (List.forall_mem_cons.mpr ⟨k_56_1, (fun _ h => absurd h List.not_mem_nil)⟩)⟩)
/-! BalconyPort$Seen.add -/
def as_57 : List eV := [(2, 0, 0, 0), (0, 12289, (-2147483648), 2147483647), (0, 20481, (-2147483648), 2147483647)]
def B_57 : eB := ([(0, 8), ((-2147483648), 2147483647), ((-2147483648), 2147483647)], [])
def hp_57 : eH := [.inl (6, [(0, 4097, 0, 8), (2, 1, 0, 0), (2, 2, 0, 0)]), .inr (0, 8, (0, 0, 0, 30), []), .inr (0, 8, (0, 0, 0, 99), [])]
def th_57 : List (Option eP) := [some (1, 0, 0), some (0, 1, 0), some (0, 2, 0)]
def os_57 : List (eO × List (Option eP)) := [((0, some (0, 28673, 0, 1), (B_57.1 ++ [(0, 1), (0, 8)], []), hS hp_57 [(0, oS hp_57 0 [(0, (0, 36865, 0, 8))])]), nTh 3 [(0, 0, 0), (1, 0, 0)])]
def cd_57 (φ : List Nat) : eCd := (as_57, B_57, hp_57, th_57, os_57.map (fun w => w.1), φ)
def us_57 : eUs := []
def sp_57 : List (Nat × Nat) := []
def ic_57 (pc : Nat) : Bool := false
def c_57_0 : eCut := ((0, eArgs 0 as_57, [], B_57, hp_57, 0, 0), [], [(900000, 0, 0)])
def K_57 : List eCut := []
set_option maxRecDepth 1000000 in
theorem k_57_0 : ckM 104 sp_57 us_57 ic_57 20000 3 3 os_57 (c_57_0 :: K_57) c_57_0 = true := by decide +kernel
set_option maxRecDepth 100000 in
theorem ok_57 {l : Launch} (htr : l.stackTraces = false) {sb : eSB} (hvs : sb.1 60 = 1) {D : va_G} {cA : Nat → ClassId} : ctH l sb D cA 104 6 as_57 B_57 hp_57 (os_57.map (fun w => w.1)) := ctH_of htr hvs (M := 104) (by decide) (lev := 5) (by decide) (L := us_57) (by decide +kernel) (fun _ h => absurd h List.not_mem_nil) (n := 20000) (sp := sp_57) (isC := ic_57) (c0 := c_57_0) (K := K_57) (by decide +kernel) rfl (List.forall_mem_cons.mpr ⟨k_57_0, (fun _ h => absurd h List.not_mem_nil)⟩)
/-! BalconyPort$Stowage.leastWithLast -/
def as_58 : List eV := [(2, 0, 0, 0), (2, 14, 0, 0), (0, 61441, 1, 1023), (0, 69633, 1, 99)]
def B_58 : eB := ([(0, 10), (0, 10), (0, 10), (0, 700), ((-2147483648), 2147483647), ((-2147483648), 2147483647), (0, 999), (1, 1023), (1, 99)], [])
def hp_58 : eH := [.inl (8, [(2, 1, 0, 0), (0, 36865, (-2147483648), 2147483647), (0, 45057, (-2147483648), 2147483647), (2, 13, 0, 0)]), .inl (3, [(0, 4097, 0, 10), (0, 12289, 0, 10), (0, 20481, 0, 10), (0, 28673, 0, 700), (2, 2, 0, 0), (2, 3, 0, 0), (2, 4, 0, 0), (2, 5, 0, 0), (2, 6, 0, 0), (2, 7, 0, 0), (2, 8, 0, 0), (2, 9, 0, 0), (2, 10, 0, 0), (2, 11, 0, 0), (2, 12, 0, 0)]), .inr (3, 2, (9, 0, 10, 0), [(1000000, (0, 0, 0, 20))]), fr9 3, fr9 4, fr9 5, fr9 6, fr9 7, fr9 8, fr9 9, fr9 10, fr9 11, fr9 12, .inr (3, 13, (9, 0, 1024, 0), []), .inl (5, [(2, 1, 0, 0), (2, 15, 0, 0), (2, 16, 0, 0)]), .inr (3, 15, (9, 0, 82, 0), [(0, (0, 53249, 0, 999)), (5, (0, 0, 0, 1023)), (6, (0, 0, 0, 1023)), (7, (0, 0, 0, 1023)), (8, (0, 0, 0, 1023)), (9, (0, 0, 0, 1023)), (12, (0, 0, 0, 4)), (13, (0, 0, 0, 4)), (14, (0, 0, 0, 4)), (15, (0, 0, 0, 4)), (16, (0, 0, 0, 4)), (17, (0, 0, 0, 4)), (18, (0, 0, 0, 4)), (19, (0, 0, 0, 4)), (20, (0, 0, 0, 4)), (21, (0, 0, 0, 4)), (22, (0, 0, (-1), 9)), (23, (0, 0, (-1), 9)), (24, (0, 0, (-1), 9)), (25, (0, 0, (-1), 9)), (26, (0, 0, (-1), 9)), (27, (0, 0, (-1), 9)), (28, (0, 0, (-1), 9)), (29, (0, 0, (-1), 9)), (30, (0, 0, (-1), 9)), (31, (0, 0, (-1), 9)), (42, (0, 0, 0, 9)), (43, (0, 0, 0, 9)), (44, (0, 0, 0, 9)), (45, (0, 0, 0, 9)), (46, (0, 0, 0, 9)), (47, (0, 0, 0, 9)), (48, (0, 0, 0, 9)), (49, (0, 0, 0, 9)), (50, (0, 0, 0, 9)), (51, (0, 0, 0, 9)), (62, (0, 0, 0, 9)), (63, (0, 0, 0, 9)), (64, (0, 0, 0, 9)), (65, (0, 0, 0, 9)), (66, (0, 0, 0, 9)), (67, (0, 0, 0, 9)), (68, (0, 0, 0, 9)), (69, (0, 0, 0, 9)), (70, (0, 0, 0, 9)), (71, (0, 0, 0, 9))]), fr9 16]
def th_58 : List (Option eP) := [some (1, 1, 0), some (1, 1, 1), some (1, 1, 2), some (1, 1, 3), some (1, 0, 1), some (1, 0, 2), some (2, 15, 0), some (0, 2, 0), some (0, 3, 0)]
def os_58 : List (eO × List (Option eP)) := [((0, some (0, 77825, (-2147483648), 2147483647), (B_58.1 ++ [((-2147483648), 2147483647)], []), hp_58), nTh 9 [(0, 0, 0)])]
def cd_58 (φ : List Nat) : eCd := (as_58, B_58, hp_58, th_58, os_58.map (fun w => w.1), φ)
def us_58 : eUs := []
def sp_58 : List (Nat × Nat) := []
def ic_58 (pc : Nat) : Bool := bif Nat.beq pc 7 then true else (false)
def c_58_0 : eCut := ((0, eArgs 0 as_58, [], B_58, hp_58, 0, 0), [], [(900000, 0, 0), (0, 0, 0)])
def c_58_1 : eCut := ((7, [(0, (2, 0, 0, 0)), (1, (2, 14, 0, 0)), (2, (0, 61441, 1, 1023)), (3, (0, 69633, 1, 99)), (4, (0, 77825, (-2147483648), 2147483647)), (5, (0, 86017, 0, 10))], [], (B_58.1 ++ [((-2147483648), 2147483647), (0, 10)], []), hp_58, 0, 0), nTh 9 [(0, 4, 0), (0, 5, 0)], [(1, 0, 0), (10, (-1), 10)])
def K_58 : List eCut := [c_58_1]
set_option maxRecDepth 1000000 in
theorem k_58_0 : ckM 117 sp_58 us_58 ic_58 20000 9 17 os_58 (c_58_0 :: K_58) c_58_0 = true := by decide +kernel
set_option maxRecDepth 1000000 in
theorem k_58_1 : ckM 117 sp_58 us_58 ic_58 20000 9 17 os_58 (c_58_0 :: K_58) c_58_1 = true := by decide +kernel
set_option maxRecDepth 100000 in
theorem ok_58 {l : Launch} (htr : l.stackTraces = false) {sb : eSB} (hvs : sb.1 60 = 1) {D : va_G} {cA : Nat → ClassId} : ctH l sb D cA 117 6 as_58 B_58 hp_58 (os_58.map (fun w => w.1)) := ctH_of htr hvs (M := 117) (by decide) (lev := 5) (by decide) (L := us_58) (by decide +kernel) (fun _ h => absurd h List.not_mem_nil) (n := 20000) (sp := sp_58) (isC := ic_58) (c0 := c_58_0) (K := K_58) (by decide +kernel) rfl (List.forall_mem_cons.mpr ⟨k_58_0, (List.forall_mem_cons.mpr ⟨k_58_1, (fun _ h => absurd h List.not_mem_nil)⟩)⟩)
/-! BalconyPort$Stowage.compareCargo -/
def as_59 : List eV := [(2, 0, 0, 0), (0, 53249, 1, 1023)]
def B_59 : eB := ([(0, 10), (0, 10), (0, 10), (0, 700), ((-2147483648), 2147483647), ((-2147483648), 2147483647), (1, 1023)], [])
def hp_59 : eH := [.inl (8, [(2, 1, 0, 0), (0, 36865, (-2147483648), 2147483647), (0, 45057, (-2147483648), 2147483647), (2, 13, 0, 0)]), .inl (3, [(0, 4097, 0, 10), (0, 12289, 0, 10), (0, 20481, 0, 10), (0, 28673, 0, 700), (2, 2, 0, 0), (2, 3, 0, 0), (2, 4, 0, 0), (2, 5, 0, 0), (2, 6, 0, 0), (2, 7, 0, 0), (2, 8, 0, 0), (2, 9, 0, 0), (2, 10, 0, 0), (2, 11, 0, 0), (2, 12, 0, 0)]), fr9 2, fr9 3, fr9 4, fr9 5, fr9 6, fr9 7, .inr (3, 8, (9, 0, 3, 0), [(0, (0, 0, 1, 99)), (1000000, (0, 0, 1, 9))]), fr9 9, fr9 10, fr9 11, fr9 12, .inr (3, 13, (9, 0, 1024, 0), [])]
def th_59 : List (Option eP) := [some (1, 1, 0), some (1, 1, 1), some (1, 1, 2), some (1, 1, 3), some (1, 0, 1), some (1, 0, 2), some (0, 1, 0)]
def os_59 : List (eO × List (Option eP)) := [((0, none, (B_59.1 ++ [((-2147483648), 2147483647), ((-2147483648), 2147483647)], []), hS hp_59 [(0, oS hp_59 0 [(1, (0, 61441, (-2147483648), 2147483647)), (2, (0, 69633, (-2147483648), 2147483647))])]), nTh 7 [(1, 0, 1), (1, 0, 2)])]
def cd_59 (φ : List Nat) : eCd := (as_59, B_59, hp_59, th_59, os_59.map (fun w => w.1), φ)
def us_59 : eUs := []
def sp_59 : List (Nat × Nat) := []
def ic_59 (pc : Nat) : Bool := false
def c_59_0 : eCut := ((0, eArgs 0 as_59, [], B_59, hp_59, 0, 0), [], [(900000, 0, 0)])
def K_59 : List eCut := []
set_option maxRecDepth 1000000 in
theorem k_59_0 : ckM 114 sp_59 us_59 ic_59 20000 7 14 os_59 (c_59_0 :: K_59) c_59_0 = true := by decide +kernel
set_option maxRecDepth 100000 in
theorem ok_59 {l : Launch} (htr : l.stackTraces = false) {sb : eSB} (hvs : sb.1 60 = 1) {D : va_G} {cA : Nat → ClassId} : ctH l sb D cA 114 6 as_59 B_59 hp_59 (os_59.map (fun w => w.1)) := ctH_of htr hvs (M := 114) (by decide) (lev := 5) (by decide) (L := us_59) (by decide +kernel) (fun _ h => absurd h List.not_mem_nil) (n := 20000) (sp := sp_59) (isC := ic_59) (c0 := c_59_0) (K := K_59) (by decide +kernel) rfl (List.forall_mem_cons.mpr ⟨k_59_0, (fun _ h => absurd h List.not_mem_nil)⟩)
/-! BalconyPort$Stowage.fewestHolds -/
def as_60 : List eV := [(2, 0, 0, 0), (2, 14, 0, 0)]
def B_60 : eB := ([(0, 10), (0, 10), (0, 10), (0, 700), ((-2147483648), 2147483647), ((-2147483648), 2147483647), (0, 999)], [])
def hp_60 : eH := [.inl (8, [(2, 1, 0, 0), (0, 36865, (-2147483648), 2147483647), (0, 45057, (-2147483648), 2147483647), (2, 13, 0, 0)]), .inl (3, [(0, 4097, 0, 10), (0, 12289, 0, 10), (0, 20481, 0, 10), (0, 28673, 0, 700), (2, 2, 0, 0), (2, 3, 0, 0), (2, 4, 0, 0), (2, 5, 0, 0), (2, 6, 0, 0), (2, 7, 0, 0), (2, 8, 0, 0), (2, 9, 0, 0), (2, 10, 0, 0), (2, 11, 0, 0), (2, 12, 0, 0)]), .inr (3, 2, (9, 0, 10, 0), [(1000000, (0, 0, 0, 20))]), fr9 3, fr9 4, fr9 5, fr9 6, fr9 7, .inr (3, 8, (9, 0, 3, 0), [(0, (0, 0, 1, 99)), (1000000, (0, 0, 1, 9))]), fr9 9, fr9 10, fr9 11, fr9 12, .inr (0, 1024, eTop, []), .inl (5, [(2, 1, 0, 0), (2, 15, 0, 0), (2, 16, 0, 0)]), .inr (3, 15, (9, 0, 82, 0), [(0, (0, 53249, 0, 999)), (5, (0, 0, 0, 1023)), (6, (0, 0, 0, 1023)), (7, (0, 0, 0, 1023)), (8, (0, 0, 0, 1023)), (9, (0, 0, 0, 1023)), (12, (0, 0, 0, 4)), (13, (0, 0, 0, 4)), (14, (0, 0, 0, 4)), (15, (0, 0, 0, 4)), (16, (0, 0, 0, 4)), (17, (0, 0, 0, 4)), (18, (0, 0, 0, 4)), (19, (0, 0, 0, 4)), (20, (0, 0, 0, 4)), (21, (0, 0, 0, 4)), (22, (0, 0, (-1), 9)), (23, (0, 0, (-1), 9)), (24, (0, 0, (-1), 9)), (25, (0, 0, (-1), 9)), (26, (0, 0, (-1), 9)), (27, (0, 0, (-1), 9)), (28, (0, 0, (-1), 9)), (29, (0, 0, (-1), 9)), (30, (0, 0, (-1), 9)), (31, (0, 0, (-1), 9)), (42, (0, 0, 0, 9)), (43, (0, 0, 0, 9)), (44, (0, 0, 0, 9)), (45, (0, 0, 0, 9)), (46, (0, 0, 0, 9)), (47, (0, 0, 0, 9)), (48, (0, 0, 0, 9)), (49, (0, 0, 0, 9)), (50, (0, 0, 0, 9)), (51, (0, 0, 0, 9)), (62, (0, 0, 0, 9)), (63, (0, 0, 0, 9)), (64, (0, 0, 0, 9)), (65, (0, 0, 0, 9)), (66, (0, 0, 0, 9)), (67, (0, 0, 0, 9)), (68, (0, 0, 0, 9)), (69, (0, 0, 0, 9)), (70, (0, 0, 0, 9)), (71, (0, 0, 0, 9))]), fr9 16]
def th_60 : List (Option eP) := [some (1, 1, 0), some (1, 1, 1), some (1, 1, 2), some (1, 1, 3), some (1, 0, 1), some (1, 0, 2), some (2, 15, 0)]
def os_60 : List (eO × List (Option eP)) := [((0, some (0, 61441, (-16777216), 16777215), (B_60.1 ++ [((-16777216), 16777215)], []), hp_60), nTh 7 [(0, 0, 0)])]
def cd_60 (φ : List Nat) : eCd := (as_60, B_60, hp_60, th_60, os_60.map (fun w => w.1), φ)
def us_60 : eUs := [(94, 117, [cd_58 [0, 1, 2, 3, 4, 5, 6, 7, 8, 9, 10, 11, 12, 13, 14, 15, 16]])]
def sp_60 : List (Nat × Nat) := []
def ic_60 (pc : Nat) : Bool := bif Nat.beq pc 68 then true else (bif Nat.beq pc 19 then true else (false))
def c_60_0 : eCut := ((0, eArgs 0 as_60, [], B_60, hp_60, 0, 0), [], [(900000, 0, 0), (0, 0, 0)])
def c_60_1 : eCut := ((19, [(0, (2, 0, 0, 0)), (1, (2, 14, 0, 0)), (2, (0, 61441, 0, 1023)), (3, (0, 69633, 1, 99)), (4, (0, 77825, 0, 10))], [], (B_60.1 ++ [(0, 1023), (1, 99), (0, 10)], []), hp_60, 0, 0), nTh 7 [(0, 2, 0), (0, 3, 0), (0, 4, 0)], [(2, 0, 0), (10, (-1), 9)])
def c_60_2 : eCut := ((68, [(0, (2, 0, 0, 0)), (1, (2, 14, 0, 0)), (2, (0, 61441, 0, 1023)), (3, (0, 69633, 1, 99)), (4, (0, 77825, 1, 1024))], [], (B_60.1 ++ [(0, 1023), (1, 99), (1, 1024)], []), hS hp_60 [(13, .inr (0, 1024, eTop, [(0, (0, 0, 1, 99))]))], 0, 0), nTh 7 [(0, 2, 0), (0, 3, 0), (0, 4, 0)], [(1, 0, 0), (1024, (-1), 9)])
def K_60 : List eCut := [c_60_1, c_60_2]
set_option maxRecDepth 1000000 in
theorem k_60_0 : ckM 115 sp_60 us_60 ic_60 20000 7 17 os_60 (c_60_0 :: K_60) c_60_0 = true := by decide +kernel
set_option maxRecDepth 1000000 in
theorem k_60_1 : ckM 115 sp_60 us_60 ic_60 20000 7 17 os_60 (c_60_0 :: K_60) c_60_1 = true := by decide +kernel
set_option maxRecDepth 1000000 in
theorem k_60_2 : ckM 115 sp_60 us_60 ic_60 20000 7 17 os_60 (c_60_0 :: K_60) c_60_2 = true := by decide +kernel
set_option maxRecDepth 100000 in
theorem ok_60 {l : Launch} (htr : l.stackTraces = false) {sb : eSB} (hvs : sb.1 60 = 1) {D : va_G} {cA : Nat → ClassId} : ctH l sb D cA 115 7 as_60 B_60 hp_60 (os_60.map (fun w => w.1)) := ctH_of htr hvs (M := 115) (by decide) (lev := 6) (by decide) (L := us_60) (by decide +kernel) (List.forall_mem_cons.mpr ⟨(List.forall_mem_cons.mpr ⟨(fun FR => ctH_mono (by decide) (ok_58 htr (sb := (sb.1, FR)) hvs)), (fun _ h => absurd h List.not_mem_nil)⟩), (fun _ h => absurd h List.not_mem_nil)⟩) (n := 20000) (sp := sp_60) (isC := ic_60) (c0 := c_60_0) (K := K_60) (by decide +kernel) rfl (List.forall_mem_cons.mpr ⟨k_60_0, (List.forall_mem_cons.mpr ⟨k_60_1, (List.forall_mem_cons.mpr ⟨k_60_2, (fun _ h => absurd h List.not_mem_nil)⟩)⟩)⟩)
/-! BalconyPort$Fitting.orderByWidth -/
def as_61 : List eV := [(2, 0, 0, 0)]
def B_61 : eB := ([(0, 10), (0, 10), (0, 10), (0, 700), ((-2147483648), 2147483647)], [])
def hp_61 : eH := [.inl (2, [(2, 1, 0, 0), (2, 13, 0, 0), (0, 36865, (-2147483648), 2147483647), (2, 14, 0, 0), (2, 15, 0, 0)]), .inl (3, [(0, 4097, 0, 10), (0, 12289, 0, 10), (0, 20481, 0, 10), (0, 28673, 0, 700), (2, 2, 0, 0), (2, 3, 0, 0), (2, 4, 0, 0), (2, 5, 0, 0), (2, 6, 0, 0), (2, 7, 0, 0), (2, 8, 0, 0), (2, 9, 0, 0), (2, 10, 0, 0), (2, 11, 0, 0), (2, 12, 0, 0)]), fr9 2, .inr (3, 3, (9, 0, 10, 0), [(1000000, (0, 0, 0, 9))]), fr9 4, fr9 5, fr9 6, fr9 7, fr9 8, fr9 9, fr9 10, fr9 11, fr9 12, fr9 13, .inr (0, 10, (0, 0, 0, 9), []), fr9 15]
def th_61 : List (Option eP) := [some (1, 1, 0), some (1, 1, 1), some (1, 1, 2), some (1, 1, 3), some (1, 0, 2)]
def os_61 : List (eO × List (Option eP)) := [((0, none, (B_61.1, []), hp_61), nTh 5 [])]
def cd_61 (φ : List Nat) : eCd := (as_61, B_61, hp_61, th_61, os_61.map (fun w => w.1), φ)
def us_61 : eUs := []
def sp_61 : List (Nat × Nat) := []
def ic_61 (pc : Nat) : Bool := bif Nat.beq pc 15 then true else (bif Nat.beq pc 2 then true else (false))
def c_61_0 : eCut := ((0, eArgs 0 as_61, [], B_61, hp_61, 0, 0), [], [(900000, 0, 0), (0, 0, 0), (0, 0, 0), (0, 0, 0)])
def c_61_1 : eCut := ((2, [(0, (2, 0, 0, 0)), (1, (0, 45057, 0, 10))], [], (B_61.1 ++ [(0, 10)], []), hp_61, 0, 0), nTh 5 [(0, 1, 0)], [(1, 0, 0), (10, (-1), 5), (900000, 0, 0), (0, 0, 0)])
def c_61_2 : eCut := ((15, [(0, (2, 0, 0, 0)), (1, (0, 45057, 0, 9)), (2, (0, 53249, 0, 9))], [], (bS B_61.1 [(0, 1, 10)] ++ [(0, 9), (0, 9)], []), hS hp_61 [(1, oS hp_61 1 [(0, (0, 4097, 1, 10))])], 0, 0), nTh 5 [(0, 1, 0), (0, 2, 0)], [(1, 0, 0), (10, (-1), 5), (1, 0, 0), (0, 1, 6)])
def K_61 : List eCut := [c_61_1, c_61_2]
set_option maxRecDepth 1000000 in
theorem k_61_0 : ckM 16 sp_61 us_61 ic_61 20000 5 16 os_61 (c_61_0 :: K_61) c_61_0 = true := by decide +kernel
set_option maxRecDepth 1000000 in
theorem k_61_1 : ckM 16 sp_61 us_61 ic_61 20000 5 16 os_61 (c_61_0 :: K_61) c_61_1 = true := by decide +kernel
set_option maxRecDepth 1000000 in
theorem k_61_2 : ckM 16 sp_61 us_61 ic_61 20000 5 16 os_61 (c_61_0 :: K_61) c_61_2 = true := by decide +kernel
set_option maxRecDepth 100000 in
theorem ok_61 {l : Launch} (htr : l.stackTraces = false) {sb : eSB} (hvs : sb.1 60 = 1) {D : va_G} {cA : Nat → ClassId} : ctH l sb D cA 16 6 as_61 B_61 hp_61 (os_61.map (fun w => w.1)) := ctH_of htr hvs (M := 16) (by decide) (lev := 5) (by decide) (L := us_61) (by decide +kernel) (fun _ h => absurd h List.not_mem_nil) (n := 20000) (sp := sp_61) (isC := ic_61) (c0 := c_61_0) (K := K_61) (by decide +kernel) rfl (List.forall_mem_cons.mpr ⟨k_61_0, (List.forall_mem_cons.mpr ⟨k_61_1, (List.forall_mem_cons.mpr ⟨k_61_2, (fun _ h => absurd h List.not_mem_nil)⟩)⟩)⟩)
/-! BalconyPort$Fitting.dearest -/
def as_62 : List eV := [(2, 0, 0, 0), (2, 16, 0, 0), (0, 53249, 0, 9), (0, 61441, (-2147483648), 2147483647)]
def B_62 : eB := ([(0, 10), (0, 10), (0, 10), (0, 700), ((-2147483648), 2147483647), (0, 999), (0, 9), ((-2147483648), 2147483647)], [])
def hp_62 : eH := [.inl (2, [(2, 1, 0, 0), (2, 13, 0, 0), (0, 36865, (-2147483648), 2147483647), (2, 14, 0, 0), (2, 15, 0, 0)]), .inl (3, [(0, 4097, 0, 10), (0, 12289, 0, 10), (0, 20481, 0, 10), (0, 28673, 0, 700), (2, 2, 0, 0), (2, 3, 0, 0), (2, 4, 0, 0), (2, 5, 0, 0), (2, 6, 0, 0), (2, 7, 0, 0), (2, 8, 0, 0), (2, 9, 0, 0), (2, 10, 0, 0), (2, 11, 0, 0), (2, 12, 0, 0)]), fr9 2, fr9 3, fr9 4, fr9 5, fr9 6, fr9 7, fr9 8, fr9 9, fr9 10, fr9 11, fr9 12, fr9 13, fr9 14, fr9 15, .inl (5, [(2, 1, 0, 0), (2, 17, 0, 0), (2, 18, 0, 0)]), .inr (3, 17, (9, 0, 82, 0), [(0, (0, 45057, 0, 999)), (5, (0, 0, 0, 1023)), (6, (0, 0, 0, 1023)), (7, (0, 0, 0, 1023)), (8, (0, 0, 0, 1023)), (9, (0, 0, 0, 1023)), (12, (0, 0, 0, 4)), (13, (0, 0, 0, 4)), (14, (0, 0, 0, 4)), (15, (0, 0, 0, 4)), (16, (0, 0, 0, 4)), (17, (0, 0, 0, 4)), (18, (0, 0, 0, 4)), (19, (0, 0, 0, 4)), (20, (0, 0, 0, 4)), (21, (0, 0, 0, 4)), (22, (0, 0, (-1), 9)), (23, (0, 0, (-1), 9)), (24, (0, 0, (-1), 9)), (25, (0, 0, (-1), 9)), (26, (0, 0, (-1), 9)), (27, (0, 0, (-1), 9)), (28, (0, 0, (-1), 9)), (29, (0, 0, (-1), 9)), (30, (0, 0, (-1), 9)), (31, (0, 0, (-1), 9)), (42, (0, 0, 0, 9)), (43, (0, 0, 0, 9)), (44, (0, 0, 0, 9)), (45, (0, 0, 0, 9)), (46, (0, 0, 0, 9)), (47, (0, 0, 0, 9)), (48, (0, 0, 0, 9)), (49, (0, 0, 0, 9)), (50, (0, 0, 0, 9)), (51, (0, 0, 0, 9)), (62, (0, 0, 0, 9)), (63, (0, 0, 0, 9)), (64, (0, 0, 0, 9)), (65, (0, 0, 0, 9)), (66, (0, 0, 0, 9)), (67, (0, 0, 0, 9)), (68, (0, 0, 0, 9)), (69, (0, 0, 0, 9)), (70, (0, 0, 0, 9)), (71, (0, 0, 0, 9))]), fr9 18]
def th_62 : List (Option eP) := [some (1, 1, 0), some (1, 1, 1), some (1, 1, 2), some (1, 1, 3), some (1, 0, 2), some (2, 17, 0), some (0, 2, 0), some (0, 3, 0)]
def os_62 : List (eO × List (Option eP)) := [((0, some (0, 69633, (-1), 9), (B_62.1 ++ [((-1), 9)], []), hp_62), nTh 8 [(0, 0, 0)])]
def cd_62 (φ : List Nat) : eCd := (as_62, B_62, hp_62, th_62, os_62.map (fun w => w.1), φ)
def us_62 : eUs := []
def sp_62 : List (Nat × Nat) := []
def ic_62 (pc : Nat) : Bool := bif Nat.beq pc 9 then true else (false)
def c_62_0 : eCut := ((0, eArgs 0 as_62, [], B_62, hp_62, 0, 0), [], [(900000, 0, 0), (0, 0, 0)])
def c_62_1 : eCut := ((9, [(0, (2, 0, 0, 0)), (1, (2, 16, 0, 0)), (2, (0, 53249, 0, 9)), (3, (0, 61441, (-2147483648), 2147483647)), (4, (0, 69633, (-1), 9)), (5, (0, 77825, (-2147483648), 2147483647)), (6, (0, 86017, 0, 10))], [], (B_62.1 ++ [((-1), 9), ((-2147483648), 2147483647), (0, 10)], []), hp_62, 0, 0), nTh 8 [(0, 4, 0), (0, 5, 0), (0, 6, 0)], [(1, 0, 0), (10, (-1), 10)])
def K_62 : List eCut := [c_62_1]
set_option maxRecDepth 1000000 in
theorem k_62_0 : ckM 12 sp_62 us_62 ic_62 20000 8 19 os_62 (c_62_0 :: K_62) c_62_0 = true := by decide +kernel
set_option maxRecDepth 1000000 in
theorem k_62_1 : ckM 12 sp_62 us_62 ic_62 20000 8 19 os_62 (c_62_0 :: K_62) c_62_1 = true := by decide +kernel
set_option maxRecDepth 100000 in
theorem ok_62 {l : Launch} (htr : l.stackTraces = false) {sb : eSB} (hvs : sb.1 60 = 1) {D : va_G} {cA : Nat → ClassId} : ctH l sb D cA 12 6 as_62 B_62 hp_62 (os_62.map (fun w => w.1)) := ctH_of htr hvs (M := 12) (by decide) (lev := 5) (by decide) (L := us_62) (by decide +kernel) (fun _ h => absurd h List.not_mem_nil) (n := 20000) (sp := sp_62) (isC := ic_62) (c0 := c_62_0) (K := K_62) (by decide +kernel) rfl (List.forall_mem_cons.mpr ⟨k_62_0, (List.forall_mem_cons.mpr ⟨k_62_1, (fun _ h => absurd h List.not_mem_nil)⟩)⟩)
/-! BalconyPort$Fitting.rentOf -/
def as_63 : List eV := [(2, 0, 0, 0), (2, 16, 0, 0), (0, 53249, (-2147483648), 2147483647), (0, 61441, (-2147483648), 2147483647)]
def B_63 : eB := ([(0, 10), (0, 10), (0, 10), (0, 700), ((-2147483648), 2147483647), (0, 999), ((-2147483648), 2147483647), ((-2147483648), 2147483647)], [])
def hp_63 : eH := [.inl (2, [(2, 1, 0, 0), (2, 13, 0, 0), (0, 36865, (-2147483648), 2147483647), (2, 14, 0, 0), (2, 15, 0, 0)]), .inl (3, [(0, 4097, 0, 10), (0, 12289, 0, 10), (0, 20481, 0, 10), (0, 28673, 0, 700), (2, 2, 0, 0), (2, 3, 0, 0), (2, 4, 0, 0), (2, 5, 0, 0), (2, 6, 0, 0), (2, 7, 0, 0), (2, 8, 0, 0), (2, 9, 0, 0), (2, 10, 0, 0), (2, 11, 0, 0), (2, 12, 0, 0)]), fr9 2, .inr (3, 3, (9, 0, 10, 0), [(1000000, (0, 0, 0, 9))]), fr9 4, fr9 5, fr9 6, fr9 7, fr9 8, fr9 9, fr9 10, fr9 11, fr9 12, fr9 13, .inr (3, 14, (9, 0, 10, 0), [(1000000, (0, 0, 0, 9))]), fr9 15, .inl (5, [(2, 1, 0, 0), (2, 17, 0, 0), (2, 18, 0, 0)]), .inr (3, 17, (9, 0, 82, 0), [(0, (0, 45057, 0, 999)), (5, (0, 0, 0, 1023)), (6, (0, 0, 0, 1023)), (7, (0, 0, 0, 1023)), (8, (0, 0, 0, 1023)), (9, (0, 0, 0, 1023)), (12, (0, 0, 0, 4)), (13, (0, 0, 0, 4)), (14, (0, 0, 0, 4)), (15, (0, 0, 0, 4)), (16, (0, 0, 0, 4)), (17, (0, 0, 0, 4)), (18, (0, 0, 0, 4)), (19, (0, 0, 0, 4)), (20, (0, 0, 0, 4)), (21, (0, 0, 0, 4)), (22, (0, 0, (-1), 9)), (23, (0, 0, (-1), 9)), (24, (0, 0, (-1), 9)), (25, (0, 0, (-1), 9)), (26, (0, 0, (-1), 9)), (27, (0, 0, (-1), 9)), (28, (0, 0, (-1), 9)), (29, (0, 0, (-1), 9)), (30, (0, 0, (-1), 9)), (31, (0, 0, (-1), 9)), (42, (0, 0, 0, 9)), (43, (0, 0, 0, 9)), (44, (0, 0, 0, 9)), (45, (0, 0, 0, 9)), (46, (0, 0, 0, 9)), (47, (0, 0, 0, 9)), (48, (0, 0, 0, 9)), (49, (0, 0, 0, 9)), (50, (0, 0, 0, 9)), (51, (0, 0, 0, 9)), (62, (0, 0, 0, 9)), (63, (0, 0, 0, 9)), (64, (0, 0, 0, 9)), (65, (0, 0, 0, 9)), (66, (0, 0, 0, 9)), (67, (0, 0, 0, 9)), (68, (0, 0, 0, 9)), (69, (0, 0, 0, 9)), (70, (0, 0, 0, 9)), (71, (0, 0, 0, 9))]), fr9 18]
def th_63 : List (Option eP) := [some (1, 1, 0), some (1, 1, 1), some (1, 1, 2), some (1, 1, 3), some (1, 0, 2), some (2, 17, 0), some (0, 2, 0), some (0, 3, 0)]
def os_63 : List (eO × List (Option eP)) := [((0, some (0, 69633, (-2147483648), 2147483647), (B_63.1 ++ [((-2147483648), 2147483647)], []), hp_63), nTh 8 [(0, 0, 0)])]
def cd_63 (φ : List Nat) : eCd := (as_63, B_63, hp_63, th_63, os_63.map (fun w => w.1), φ)
def us_63 : eUs := [(53, 12, [cd_62 [0, 1, 2, 3, 4, 5, 6, 7, 8, 9, 10, 11, 12, 13, 14, 15, 16, 17, 18]])]
def sp_63 : List (Nat × Nat) := []
def ic_63 (pc : Nat) : Bool := bif Nat.beq pc 9 then true else (false)
def c_63_0 : eCut := ((0, eArgs 0 as_63, [], B_63, hp_63, 0, 0), [], [(900000, 0, 0), (0, 0, 0)])
def c_63_1 : eCut := ((9, [(0, (2, 0, 0, 0)), (1, (2, 16, 0, 0)), (2, (0, 53249, (-2147483648), 2147483647)), (3, (0, 61441, (-2147483648), 2147483647)), (4, (0, 69633, (-2147483648), 2147483647)), (5, (0, 77825, (-2147483648), 2147483647)), (6, (0, 86017, 0, 10))], [], (B_63.1 ++ [((-2147483648), 2147483647), ((-2147483648), 2147483647), (0, 10)], []), hp_63, 0, 0), nTh 8 [(0, 4, 0), (0, 5, 0), (0, 6, 0)], [(1, 0, 0), (10, (-1), 10)])
def K_63 : List eCut := [c_63_1]
set_option maxRecDepth 1000000 in
theorem k_63_0 : ckM 17 sp_63 us_63 ic_63 20000 8 19 os_63 (c_63_0 :: K_63) c_63_0 = true := by decide +kernel
set_option maxRecDepth 1000000 in
theorem k_63_1 : ckM 17 sp_63 us_63 ic_63 20000 8 19 os_63 (c_63_0 :: K_63) c_63_1 = true := by decide +kernel
set_option maxRecDepth 100000 in
theorem ok_63 {l : Launch} (htr : l.stackTraces = false) {sb : eSB} (hvs : sb.1 60 = 1) {D : va_G} {cA : Nat → ClassId} : ctH l sb D cA 17 7 as_63 B_63 hp_63 (os_63.map (fun w => w.1)) := ctH_of htr hvs (M := 17) (by decide) (lev := 6) (by decide) (L := us_63) (by decide +kernel) (List.forall_mem_cons.mpr ⟨(List.forall_mem_cons.mpr ⟨(fun FR => ctH_mono (by decide) (ok_62 htr (sb := (sb.1, FR)) hvs)), (fun _ h => absurd h List.not_mem_nil)⟩), (fun _ h => absurd h List.not_mem_nil)⟩) (n := 20000) (sp := sp_63) (isC := ic_63) (c0 := c_63_0) (K := K_63) (by decide +kernel) rfl (List.forall_mem_cons.mpr ⟨k_63_0, (List.forall_mem_cons.mpr ⟨k_63_1, (fun _ h => absurd h List.not_mem_nil)⟩)⟩)
/-! BalconyPort$Fitting.firstWall -/
def as_64 : List eV := [(2, 0, 0, 0), (2, 16, 0, 0), (0, 53249, 0, 9), (0, 61441, (-2147483648), 2147483647), (0, 69633, (-2147483648), 2147483647), (0, 77825, (-2147483648), 2147483647)]
def B_64 : eB := ([(0, 10), (0, 10), (0, 10), (0, 700), ((-2147483648), 2147483647), (0, 999), (0, 9), ((-2147483648), 2147483647), ((-2147483648), 2147483647), ((-2147483648), 2147483647)], [])
def hp_64 : eH := [.inl (2, [(2, 1, 0, 0), (2, 13, 0, 0), (0, 36865, (-2147483648), 2147483647), (2, 14, 0, 0), (2, 15, 0, 0)]), .inl (3, [(0, 4097, 0, 10), (0, 12289, 0, 10), (0, 20481, 0, 10), (0, 28673, 0, 700), (2, 2, 0, 0), (2, 3, 0, 0), (2, 4, 0, 0), (2, 5, 0, 0), (2, 6, 0, 0), (2, 7, 0, 0), (2, 8, 0, 0), (2, 9, 0, 0), (2, 10, 0, 0), (2, 11, 0, 0), (2, 12, 0, 0)]), fr9 2, .inr (3, 3, (9, 0, 10, 0), [(1000000, (0, 0, 0, 9))]), fr9 4, fr9 5, fr9 6, fr9 7, fr9 8, fr9 9, fr9 10, fr9 11, fr9 12, fr9 13, .inr (3, 14, (9, 0, 10, 0), [(1000000, (0, 0, 0, 9))]), fr9 15, .inl (5, [(2, 1, 0, 0), (2, 17, 0, 0), (2, 18, 0, 0)]), .inr (3, 17, (9, 0, 82, 0), [(0, (0, 45057, 0, 999)), (5, (0, 0, 0, 1023)), (6, (0, 0, 0, 1023)), (7, (0, 0, 0, 1023)), (8, (0, 0, 0, 1023)), (9, (0, 0, 0, 1023)), (12, (0, 0, 0, 4)), (13, (0, 0, 0, 4)), (14, (0, 0, 0, 4)), (15, (0, 0, 0, 4)), (16, (0, 0, 0, 4)), (17, (0, 0, 0, 4)), (18, (0, 0, 0, 4)), (19, (0, 0, 0, 4)), (20, (0, 0, 0, 4)), (21, (0, 0, 0, 4)), (22, (0, 0, (-1), 9)), (23, (0, 0, (-1), 9)), (24, (0, 0, (-1), 9)), (25, (0, 0, (-1), 9)), (26, (0, 0, (-1), 9)), (27, (0, 0, (-1), 9)), (28, (0, 0, (-1), 9)), (29, (0, 0, (-1), 9)), (30, (0, 0, (-1), 9)), (31, (0, 0, (-1), 9)), (42, (0, 0, 0, 9)), (43, (0, 0, 0, 9)), (44, (0, 0, 0, 9)), (45, (0, 0, 0, 9)), (46, (0, 0, 0, 9)), (47, (0, 0, 0, 9)), (48, (0, 0, 0, 9)), (49, (0, 0, 0, 9)), (50, (0, 0, 0, 9)), (51, (0, 0, 0, 9)), (62, (0, 0, 0, 9)), (63, (0, 0, 0, 9)), (64, (0, 0, 0, 9)), (65, (0, 0, 0, 9)), (66, (0, 0, 0, 9)), (67, (0, 0, 0, 9)), (68, (0, 0, 0, 9)), (69, (0, 0, 0, 9)), (70, (0, 0, 0, 9)), (71, (0, 0, 0, 9))]), fr9 18]
def th_64 : List (Option eP) := [some (1, 1, 0), some (1, 1, 1), some (1, 1, 2), some (1, 1, 3), some (1, 0, 2), some (2, 17, 0), some (0, 2, 0), some (0, 3, 0), some (0, 4, 0), some (0, 5, 0)]
def os_64 : List (eO × List (Option eP)) := [((0, some (0, 86017, (-1), 9), (B_64.1 ++ [((-1), 9)], []), hp_64), nTh 10 [(0, 0, 0)])]
def cd_64 (φ : List Nat) : eCd := (as_64, B_64, hp_64, th_64, os_64.map (fun w => w.1), φ)
def us_64 : eUs := [(61, 17, [cd_63 [0, 1, 2, 3, 4, 5, 6, 7, 8, 9, 10, 11, 12, 13, 14, 15, 16, 17, 18]])]
def sp_64 : List (Nat × Nat) := []
def ic_64 (pc : Nat) : Bool := bif Nat.beq pc 3 then true else (false)
def c_64_0 : eCut := ((0, eArgs 0 as_64, [], B_64, hp_64, 0, 0), [], [(900000, 0, 0), (0, 0, 0)])
def c_64_1 : eCut := ((3, [(0, (2, 0, 0, 0)), (1, (2, 16, 0, 0)), (2, (0, 53249, 0, 9)), (3, (0, 61441, (-2147483648), 2147483647)), (4, (0, 69633, (-2147483648), 2147483647)), (5, (0, 77825, (-2147483648), 2147483647)), (6, (0, 86017, 0, 10))], [], (B_64.1 ++ [(0, 10)], []), hp_64, 0, 0), nTh 10 [(0, 6, 0)], [(1, 0, 0), (10, (-1), 10)])
def K_64 : List eCut := [c_64_1]
set_option maxRecDepth 1000000 in
theorem k_64_0 : ckM 14 sp_64 us_64 ic_64 20000 10 19 os_64 (c_64_0 :: K_64) c_64_0 = true := by decide +kernel
set_option maxRecDepth 1000000 in
theorem k_64_1 : ckM 14 sp_64 us_64 ic_64 20000 10 19 os_64 (c_64_0 :: K_64) c_64_1 = true := by decide +kernel
