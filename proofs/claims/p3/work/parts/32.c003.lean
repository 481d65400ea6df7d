/-! ===== CONTRACTS, 32.c003 ===== -/
set_option maxRecDepth 100000 in
theorem ok_64 {l : Launch} (htr : l.stackTraces = false) {sb : eSB} (hvs : sb.1 60 = 1) {D : va_G} {cA : Nat → ClassId} : ctH l sb D cA 14 8 as_64 B_64 hp_64 (os_64.map (fun w => w.1)) := ctH_of htr hvs (M := 14) (by decide) (lev := 7) (by decide) (L := us_64) (by decide +kernel) (List.forall_mem_cons.mpr ⟨(List.forall_mem_cons.mpr ⟨(fun FR => ctH_mono (by decide) (ok_63 htr (sb := (sb.1, FR)) hvs)), (fun _ h => absurd h List.not_mem_nil)⟩), (fun _ h => absurd h List.not_mem_nil)⟩) (n := 20000) (sp := sp_64) (isC := ic_64) (c0 := c_64_0) (K := K_64) (by decide +kernel) rfl (List.forall_mem_cons.mpr ⟨k_64_0, (List.forall_mem_cons.mpr ⟨k_64_1, (fun _ h => absurd h List.not_mem_nil)⟩)⟩)
/-! BalconyPort$Fitting.share -/
def as_65 : List eV := [(2, 0, 0, 0), (2, 16, 0, 0)]
def B_65 : eB := ([(0, 10), (0, 10), (0, 10), (0, 700), ((-2147483648), 2147483647), (0, 999)], [])
def hp_65 : eH := [.inl (2, [(2, 1, 0, 0), (2, 13, 0, 0), (0, 36865, (-2147483648), 2147483647), (2, 14, 0, 0), (2, 15, 0, 0)]), .inl (3, [(0, 4097, 0, 10), (0, 12289, 0, 10), (0, 20481, 0, 10), (0, 28673, 0, 700), (2, 2, 0, 0), (2, 3, 0, 0), (2, 4, 0, 0), (2, 5, 0, 0), (2, 6, 0, 0), (2, 7, 0, 0), (2, 8, 0, 0), (2, 9, 0, 0), (2, 10, 0, 0), (2, 11, 0, 0), (2, 12, 0, 0)]), fr9 2, .inr (3, 3, (9, 0, 10, 0), [(1000000, (0, 0, 0, 9))]), fr9 4, fr9 5, fr9 6, fr9 7, fr9 8, fr9 9, fr9 10, fr9 11, fr9 12, .inr (0, 10, eTop, []), .inr (0, 10, (0, 0, 0, 9), []), fr9 15, .inl (5, [(2, 1, 0, 0), (2, 17, 0, 0), (2, 18, 0, 0)]), .inr (3, 17, (9, 0, 82, 0), [(0, (0, 45057, 0, 999)), (5, (0, 0, 0, 1023)), (6, (0, 0, 0, 1023)), (7, (0, 0, 0, 1023)), (8, (0, 0, 0, 1023)), (9, (0, 0, 0, 1023)), (12, (0, 0, 0, 4)), (13, (0, 0, 0, 4)), (14, (0, 0, 0, 4)), (15, (0, 0, 0, 4)), (16, (0, 0, 0, 4)), (17, (0, 0, 0, 4)), (18, (0, 0, 0, 4)), (19, (0, 0, 0, 4)), (20, (0, 0, 0, 4)), (21, (0, 0, 0, 4)), (22, (0, 0, (-1), 9)), (23, (0, 0, (-1), 9)), (24, (0, 0, (-1), 9)), (25, (0, 0, (-1), 9)), (26, (0, 0, (-1), 9)), (27, (0, 0, (-1), 9)), (28, (0, 0, (-1), 9)), (29, (0, 0, (-1), 9)), (30, (0, 0, (-1), 9)), (31, (0, 0, (-1), 9)), (42, (0, 0, 0, 9)), (43, (0, 0, 0, 9)), (44, (0, 0, 0, 9)), (45, (0, 0, 0, 9)), (46, (0, 0, 0, 9)), (47, (0, 0, 0, 9)), (48, (0, 0, 0, 9)), (49, (0, 0, 0, 9)), (50, (0, 0, 0, 9)), (51, (0, 0, 0, 9)), (62, (0, 0, 0, 9)), (63, (0, 0, 0, 9)), (64, (0, 0, 0, 9)), (65, (0, 0, 0, 9)), (66, (0, 0, 0, 9)), (67, (0, 0, 0, 9)), (68, (0, 0, 0, 9)), (69, (0, 0, 0, 9)), (70, (0, 0, 0, 9)), (71, (0, 0, 0, 9))]), fr9 18]
def th_65 : List (Option eP) := [some (1, 1, 0), some (1, 1, 1), some (1, 1, 2), some (1, 1, 3), some (1, 0, 2), some (2, 17, 0)]
def os_65 : List (eO × List (Option eP)) := [((0, none, (B_65.1 ++ [((-2147483648), 2147483647)], []), hS hp_65 [(0, oS hp_65 0 [(2, (0, 53249, (-2147483648), 2147483647))])]), nTh 6 [(1, 0, 2)])]
def cd_65 (φ : List Nat) : eCd := (as_65, B_65, hp_65, th_65, os_65.map (fun w => w.1), φ)
def us_65 : eUs := [(1, 16, [cd_61 [0, 1, 2, 3, 4, 5, 6, 7, 8, 9, 10, 11, 12, 13, 14, 15]]), (26, 17, [cd_63 [0, 1, 2, 3, 4, 5, 6, 7, 8, 9, 10, 11, 12, 13, 14, 15, 16, 17, 18]]), (90, 14, [cd_64 [0, 1, 2, 3, 4, 5, 6, 7, 8, 9, 10, 11, 12, 13, 14, 15, 16, 17, 18]])]
def sp_65 : List (Nat × Nat) := []
def ic_65 (pc : Nat) : Bool := bif Nat.beq pc 41 then true else (false)
def c_65_0 : eCut := ((0, eArgs 0 as_65, [], B_65, hp_65, 0, 0), [], [(900000, 0, 0), (0, 0, 0)])
def c_65_1 : eCut := ((41, [(0, (2, 0, 0, 0)), (1, (2, 16, 0, 0)), (2, (0, 53249, 0, 1023)), (3, (0, 61441, 0, 1023)), (4, (0, 69633, (-2147483648), 2147483647)), (5, (0, 77825, 0, 10))], [], (B_65.1 ++ [(0, 1023), (0, 1023), ((-2147483648), 2147483647), (0, 10), ((-2147483648), 2147483647)], []), hS hp_65 [(0, oS hp_65 0 [(2, (0, 86017, (-2147483648), 2147483647))])], 0, 0), nTh 6 [(0, 2, 0), (0, 3, 0), (0, 4, 0), (0, 5, 0), (1, 0, 2)], [(1, 0, 0), (10, (-1), 9)])
def K_65 : List eCut := [c_65_1]
set_option maxRecDepth 1000000 in
theorem k_65_0 : ckM 18 sp_65 us_65 ic_65 20000 6 19 os_65 (c_65_0 :: K_65) c_65_0 = true := by decide +kernel
set_option maxRecDepth 1000000 in
theorem k_65_1 : ckM 18 sp_65 us_65 ic_65 20000 6 19 os_65 (c_65_0 :: K_65) c_65_1 = true := by decide +kernel
set_option maxRecDepth 100000 in
theorem ok_65 {l : Launch} (htr : l.stackTraces = false) {sb : eSB} (hvs : sb.1 60 = 1) {D : va_G} {cA : Nat → ClassId} : ctH l sb D cA 18 9 as_65 B_65 hp_65 (os_65.map (fun w => w.1)) := ctH_of htr hvs (M := 18) (by decide) (lev := 8) (by decide) (L := us_65) (by decide +kernel) (List.forall_mem_cons.mpr ⟨(List.forall_mem_cons.mpr ⟨(fun FR => ctH_mono (by decide) (ok_61 htr (sb := (sb.1, FR)) hvs)), (fun _ h => absurd h List.not_mem_nil)⟩), (List.forall_mem_cons.mpr ⟨(List.forall_mem_cons.mpr ⟨(fun FR => ctH_mono (by decide) (ok_63 htr (sb := (sb.1, FR)) hvs)), (fun _ h => absurd h List.not_mem_nil)⟩), (List.forall_mem_cons.mpr ⟨(List.forall_mem_cons.mpr ⟨(fun FR => ctH_mono (by decide) (ok_64 htr (sb := (sb.1, FR)) hvs)), (fun _ h => absurd h List.not_mem_nil)⟩), (fun _ h => absurd h List.not_mem_nil)⟩)⟩)⟩) (n := 20000) (sp := sp_65) (isC := ic_65) (c0 := c_65_0) (K := K_65) (by decide +kernel) rfl (List.forall_mem_cons.mpr ⟨k_65_0, (List.forall_mem_cons.mpr ⟨k_65_1, (fun _ h => absurd h List.not_mem_nil)⟩)⟩)
/-! BalconyPort$Fitting.hasRoomForAll -/
def as_66 : List eV := [(2, 0, 0, 0), (2, 16, 0, 0), (0, 53249, 0, 1023)]
def B_66 : eB := ([(0, 10), (0, 10), (0, 10), (0, 700), ((-2147483648), 2147483647), (0, 999), (0, 1023)], [])
def hp_66 : eH := [.inl (2, [(2, 1, 0, 0), (2, 13, 0, 0), (0, 36865, (-2147483648), 2147483647), (2, 14, 0, 0), (2, 15, 0, 0)]), .inl (3, [(0, 4097, 0, 10), (0, 12289, 0, 10), (0, 20481, 0, 10), (0, 28673, 0, 700), (2, 2, 0, 0), (2, 3, 0, 0), (2, 4, 0, 0), (2, 5, 0, 0), (2, 6, 0, 0), (2, 7, 0, 0), (2, 8, 0, 0), (2, 9, 0, 0), (2, 10, 0, 0), (2, 11, 0, 0), (2, 12, 0, 0)]), fr9 2, .inr (3, 3, (9, 0, 10, 0), [(1000000, (0, 0, 0, 9))]), fr9 4, fr9 5, fr9 6, fr9 7, fr9 8, fr9 9, fr9 10, fr9 11, fr9 12, fr9 13, fr9 14, .inr (0, 10, eTop, []), .inl (5, [(2, 1, 0, 0), (2, 17, 0, 0), (2, 18, 0, 0)]), .inr (3, 17, (9, 0, 82, 0), [(0, (0, 45057, 0, 999)), (5, (0, 0, 0, 1023)), (6, (0, 0, 0, 1023)), (7, (0, 0, 0, 1023)), (8, (0, 0, 0, 1023)), (9, (0, 0, 0, 1023)), (12, (0, 0, 0, 4)), (13, (0, 0, 0, 4)), (14, (0, 0, 0, 4)), (15, (0, 0, 0, 4)), (16, (0, 0, 0, 4)), (17, (0, 0, 0, 4)), (18, (0, 0, 0, 4)), (19, (0, 0, 0, 4)), (20, (0, 0, 0, 4)), (21, (0, 0, 0, 4)), (22, (0, 0, (-1), 9)), (23, (0, 0, (-1), 9)), (24, (0, 0, (-1), 9)), (25, (0, 0, (-1), 9)), (26, (0, 0, (-1), 9)), (27, (0, 0, (-1), 9)), (28, (0, 0, (-1), 9)), (29, (0, 0, (-1), 9)), (30, (0, 0, (-1), 9)), (31, (0, 0, (-1), 9)), (42, (0, 0, 0, 9)), (43, (0, 0, 0, 9)), (44, (0, 0, 0, 9)), (45, (0, 0, 0, 9)), (46, (0, 0, 0, 9)), (47, (0, 0, 0, 9)), (48, (0, 0, 0, 9)), (49, (0, 0, 0, 9)), (50, (0, 0, 0, 9)), (51, (0, 0, 0, 9)), (62, (0, 0, 0, 9)), (63, (0, 0, 0, 9)), (64, (0, 0, 0, 9)), (65, (0, 0, 0, 9)), (66, (0, 0, 0, 9)), (67, (0, 0, 0, 9)), (68, (0, 0, 0, 9)), (69, (0, 0, 0, 9)), (70, (0, 0, 0, 9)), (71, (0, 0, 0, 9))]), fr9 18]
def th_66 : List (Option eP) := [some (1, 1, 0), some (1, 1, 1), some (1, 1, 2), some (1, 1, 3), some (1, 0, 2), some (2, 17, 0), some (0, 2, 0)]
def os_66 : List (eO × List (Option eP)) := [((0, some (0, 61441, 0, 1), (B_66.1 ++ [(0, 1)], []), hp_66), nTh 7 [(0, 0, 0)])]
def cd_66 (φ : List Nat) : eCd := (as_66, B_66, hp_66, th_66, os_66.map (fun w => w.1), φ)
def us_66 : eUs := [(5, 280, [cd_2 [15]])]
def sp_66 : List (Nat × Nat) := []
def ic_66 (pc : Nat) : Bool := bif Nat.beq pc 111 then true else (bif Nat.beq pc 62 then true else (bif Nat.beq pc 10 then true else (false)))
def c_66_0 : eCut := ((0, eArgs 0 as_66, [], B_66, hp_66, 0, 0), [], [(900000, 0, 0), (0, 0, 0)])
def c_66_1 : eCut := ((10, [(0, (2, 0, 0, 0)), (1, (2, 16, 0, 0)), (2, (0, 53249, 0, 1023)), (3, (0, 61441, 0, 10))], [], (B_66.1 ++ [(0, 10)], []), hp_66, 0, 0), nTh 7 [(0, 3, 0)], [(3, 0, 0), (10, (-1), 7)])
def c_66_2 : eCut := ((62, [(0, (2, 0, 0, 0)), (1, (2, 16, 0, 0)), (2, (0, 53249, 0, 1023)), (3, (0, 61441, 0, 1023)), (4, (0, 69633, 0, 10))], [], (B_66.1 ++ [(0, 1023), (0, 10)], []), hp_66, 0, 0), nTh 7 [(0, 3, 0), (0, 4, 0)], [(2, 0, 0), (10, (-1), 8)])
def c_66_3 : eCut := ((111, [(0, (2, 0, 0, 0)), (1, (2, 16, 0, 0)), (2, (0, 53249, 0, 1023)), (3, (0, 61441, 0, 1023)), (4, (0, 69633, (-2147483648), 2147483647)), (5, (0, 77825, 0, 9))], [], (B_66.1 ++ [(0, 1023), ((-2147483648), 2147483647), (0, 9)], []), hp_66, 0, 0), nTh 7 [(0, 3, 0), (0, 4, 0), (0, 5, 0)], [(1, 0, 0), (0, 1, 9)])
def K_66 : List eCut := [c_66_1, c_66_2, c_66_3]
set_option maxRecDepth 1000000 in
theorem k_66_0 : ckM 15 sp_66 us_66 ic_66 20000 7 19 os_66 (c_66_0 :: K_66) c_66_0 = true := by decide +kernel
set_option maxRecDepth 1000000 in
theorem k_66_1 : ckM 15 sp_66 us_66 ic_66 20000 7 19 os_66 (c_66_0 :: K_66) c_66_1 = true := by decide +kernel
set_option maxRecDepth 1000000 in
theorem k_66_2 : ckM 15 sp_66 us_66 ic_66 20000 7 19 os_66 (c_66_0 :: K_66) c_66_2 = true := by decide +kernel
set_option maxRecDepth 1000000 in
theorem k_66_3 : ckM 15 sp_66 us_66 ic_66 20000 7 19 os_66 (c_66_0 :: K_66) c_66_3 = true := by decide +kernel
set_option maxRecDepth 100000 in
theorem ok_66 {l : Launch} (htr : l.stackTraces = false) {sb : eSB} (hvs : sb.1 60 = 1) {D : va_G} {cA : Nat → ClassId} : ctH l sb D cA 15 7 as_66 B_66 hp_66 (os_66.map (fun w => w.1)) := ctH_of htr hvs (M := 15) (by decide) (lev := 6) (by decide) (L := us_66) (by decide +kernel) (List.forall_mem_cons.mpr ⟨(List.forall_mem_cons.mpr ⟨(fun FR => ctH_mono (by decide) (ok_2 htr (sb := (sb.1, FR)) hvs)), (fun _ h => absurd h List.not_mem_nil)⟩), (fun _ h => absurd h List.not_mem_nil)⟩) (n := 20000) (sp := sp_66) (isC := ic_66) (c0 := c_66_0) (K := K_66) (by decide +kernel) rfl (List.forall_mem_cons.mpr ⟨k_66_0, (List.forall_mem_cons.mpr ⟨k_66_1, (List.forall_mem_cons.mpr ⟨k_66_2, (List.forall_mem_cons.mpr ⟨k_66_3, (fun _ h => absurd h List.not_mem_nil)⟩)⟩)⟩)⟩)
/-! BalconyPort$Fitting.fewestWidened -/
def as_67 : List eV := [(2, 0, 0, 0), (2, 16, 0, 0)]
def B_67 : eB := ([(0, 10), (0, 10), (0, 10), (0, 700), ((-2147483648), 2147483647), (0, 999)], [])
def hp_67 : eH := [.inl (2, [(2, 1, 0, 0), (2, 13, 0, 0), (0, 36865, (-2147483648), 2147483647), (2, 14, 0, 0), (2, 15, 0, 0)]), .inl (3, [(0, 4097, 0, 10), (0, 12289, 0, 10), (0, 20481, 0, 10), (0, 28673, 0, 700), (2, 2, 0, 0), (2, 3, 0, 0), (2, 4, 0, 0), (2, 5, 0, 0), (2, 6, 0, 0), (2, 7, 0, 0), (2, 8, 0, 0), (2, 9, 0, 0), (2, 10, 0, 0), (2, 11, 0, 0), (2, 12, 0, 0)]), fr9 2, .inr (3, 3, (9, 0, 10, 0), [(1000000, (0, 0, 0, 9))]), fr9 4, fr9 5, fr9 6, fr9 7, fr9 8, fr9 9, fr9 10, fr9 11, fr9 12, fr9 13, fr9 14, .inr (0, 10, eTop, []), .inl (5, [(2, 1, 0, 0), (2, 17, 0, 0), (2, 18, 0, 0)]), .inr (3, 17, (9, 0, 82, 0), [(0, (0, 45057, 0, 999)), (5, (0, 0, 0, 1023)), (6, (0, 0, 0, 1023)), (7, (0, 0, 0, 1023)), (8, (0, 0, 0, 1023)), (9, (0, 0, 0, 1023)), (12, (0, 0, 0, 4)), (13, (0, 0, 0, 4)), (14, (0, 0, 0, 4)), (15, (0, 0, 0, 4)), (16, (0, 0, 0, 4)), (17, (0, 0, 0, 4)), (18, (0, 0, 0, 4)), (19, (0, 0, 0, 4)), (20, (0, 0, 0, 4)), (21, (0, 0, 0, 4)), (22, (0, 0, (-1), 9)), (23, (0, 0, (-1), 9)), (24, (0, 0, (-1), 9)), (25, (0, 0, (-1), 9)), (26, (0, 0, (-1), 9)), (27, (0, 0, (-1), 9)), (28, (0, 0, (-1), 9)), (29, (0, 0, (-1), 9)), (30, (0, 0, (-1), 9)), (31, (0, 0, (-1), 9)), (42, (0, 0, 0, 9)), (43, (0, 0, 0, 9)), (44, (0, 0, 0, 9)), (45, (0, 0, 0, 9)), (46, (0, 0, 0, 9)), (47, (0, 0, 0, 9)), (48, (0, 0, 0, 9)), (49, (0, 0, 0, 9)), (50, (0, 0, 0, 9)), (51, (0, 0, 0, 9)), (62, (0, 0, 0, 9)), (63, (0, 0, 0, 9)), (64, (0, 0, 0, 9)), (65, (0, 0, 0, 9)), (66, (0, 0, 0, 9)), (67, (0, 0, 0, 9)), (68, (0, 0, 0, 9)), (69, (0, 0, 0, 9)), (70, (0, 0, 0, 9)), (71, (0, 0, 0, 9))]), fr9 18]
def th_67 : List (Option eP) := [some (1, 1, 0), some (1, 1, 1), some (1, 1, 2), some (1, 1, 3), some (1, 0, 2), some (2, 17, 0)]
def os_67 : List (eO × List (Option eP)) := [((0, some (0, 53249, (-1), 1023), (B_67.1 ++ [((-1), 1023)], []), hp_67), nTh 6 [(0, 0, 0)])]
def cd_67 (φ : List Nat) : eCd := (as_67, B_67, hp_67, th_67, os_67.map (fun w => w.1), φ)
def us_67 : eUs := [(43, 15, [cd_66 [0, 1, 2, 3, 4, 5, 6, 7, 8, 9, 10, 11, 12, 13, 14, 15, 16, 17, 18]])]
def sp_67 : List (Nat × Nat) := []
def ic_67 (pc : Nat) : Bool := bif Nat.beq pc 19 then true else (false)
def c_67_0 : eCut := ((0, eArgs 0 as_67, [], B_67, hp_67, 0, 0), [], [(900000, 0, 0), (0, 0, 0)])
def c_67_1 : eCut := ((19, [(0, (2, 0, 0, 0)), (1, (2, 16, 0, 0)), (2, (0, 53249, (-1), 1023)), (3, (0, 61441, 0, 11)), (4, (0, 69633, 1, 1024)), (5, (0, 77825, 0, 1024))], [], (B_67.1 ++ [((-1), 1023), (0, 11), (1, 1024), (0, 1024)], []), hp_67, 0, 0), nTh 6 [(0, 2, 0), (0, 3, 0), (0, 4, 0), (0, 5, 0)], [(1, 0, 0), (1024, (-1), 9)])
def K_67 : List eCut := [c_67_1]
set_option maxRecDepth 1000000 in
theorem k_67_0 : ckM 13 sp_67 us_67 ic_67 20000 6 19 os_67 (c_67_0 :: K_67) c_67_0 = true := by decide +kernel
set_option maxRecDepth 1000000 in
theorem k_67_1 : ckM 13 sp_67 us_67 ic_67 20000 6 19 os_67 (c_67_0 :: K_67) c_67_1 = true := by decide +kernel
set_option maxRecDepth 100000 in
theorem ok_67 {l : Launch} (htr : l.stackTraces = false) {sb : eSB} (hvs : sb.1 60 = 1) {D : va_G} {cA : Nat → ClassId} : ctH l sb D cA 13 8 as_67 B_67 hp_67 (os_67.map (fun w => w.1)) := ctH_of htr hvs (M := 13) (by decide) (lev := 7) (by decide) (L := us_67) (by decide +kernel) (List.forall_mem_cons.mpr ⟨(List.forall_mem_cons.mpr ⟨(fun FR => ctH_mono (by decide) (ok_66 htr (sb := (sb.1, FR)) hvs)), (fun _ h => absurd h List.not_mem_nil)⟩), (fun _ h => absurd h List.not_mem_nil)⟩) (n := 20000) (sp := sp_67) (isC := ic_67) (c0 := c_67_0) (K := K_67) (by decide +kernel) rfl (List.forall_mem_cons.mpr ⟨k_67_0, (List.forall_mem_cons.mpr ⟨k_67_1, (fun _ h => absurd h List.not_mem_nil)⟩)⟩)
/-! java/lang/Integer.numberOfTrailingZeros -/
def as_68 : List eV := [(0, 4097, 1, 1023)]
def B_68 : eB := ([(1, 1023)], [])
def hp_68 : eH := []
def th_68 : List (Option eP) := [some (0, 0, 0)]
def os_68 : List (eO × List (Option eP)) := [((0, some (0, 12289, 0, 9), ([(1, 1023), (0, 9)], []), []), [none, some (0, 0, 0)])]
def cd_68 (φ : List Nat) : eCd := (as_68, B_68, hp_68, th_68, os_68.map (fun w => w.1), φ)
def c_68_0 : eCut := ((0, eArgs 0 [(0, 4097, 1, 63)], [], ([(1, 63)], []), [], 0, 0), [], [(900000, 0, 0)])
set_option maxRecDepth 1000000 in
theorem k_68_0 : ckM 278 [(0, 0)] [] (fun _ => false) 20000 1 0 os_68 [c_68_0] c_68_0 = true := by decide +kernel
set_option maxRecDepth 100000 in
theorem ok_68_0 {l : Launch} (htr : l.stackTraces = false) {sb : eSB} (hvs : sb.1 60 = 1) {D : va_G} {cA : Nat → ClassId} : ctH l sb D cA 278 6 [(0, 4097, 1, 63)] ([(1, 63)], []) [] (os_68.map (fun w => w.1)) := ctH_of htr hvs (M := 278) (by decide) (lev := 5) (by decide) (L := []) (by decide +kernel) (fun _ h => absurd h List.not_mem_nil) (n := 20000) (sp := [(0, 0)]) (isC := fun _ => false) (c0 := c_68_0) (K := []) (by decide +kernel) rfl (List.forall_mem_cons.mpr ⟨k_68_0, (fun _ h => absurd h List.not_mem_nil)⟩)
def c_68_1 : eCut := ((0, eArgs 0 [(0, 4097, 64, 127)], [], ([(64, 127)], []), [], 0, 0), [], [(900000, 0, 0)])
set_option maxRecDepth 1000000 in
theorem k_68_1 : ckM 278 [(0, 0)] [] (fun _ => false) 20000 1 0 os_68 [c_68_1] c_68_1 = true := by decide +kernel
set_option maxRecDepth 100000 in
theorem ok_68_1 {l : Launch} (htr : l.stackTraces = false) {sb : eSB} (hvs : sb.1 60 = 1) {D : va_G} {cA : Nat → ClassId} : ctH l sb D cA 278 6 [(0, 4097, 64, 127)] ([(64, 127)], []) [] (os_68.map (fun w => w.1)) := ctH_of htr hvs (M := 278) (by decide) (lev := 5) (by decide) (L := []) (by decide +kernel) (fun _ h => absurd h List.not_mem_nil) (n := 20000) (sp := [(0, 0)]) (isC := fun _ => false) (c0 := c_68_1) (K := []) (by decide +kernel) rfl (List.forall_mem_cons.mpr ⟨k_68_1, (fun _ h => absurd h List.not_mem_nil)⟩)
def c_68_2 : eCut := ((0, eArgs 0 [(0, 4097, 128, 191)], [], ([(128, 191)], []), [], 0, 0), [], [(900000, 0, 0)])
set_option maxRecDepth 1000000 in
theorem k_68_2 : ckM 278 [(0, 0)] [] (fun _ => false) 20000 1 0 os_68 [c_68_2] c_68_2 = true := by decide +kernel
set_option maxRecDepth 100000 in
theorem ok_68_2 {l : Launch} (htr : l.stackTraces = false) {sb : eSB} (hvs : sb.1 60 = 1) {D : va_G} {cA : Nat → ClassId} : ctH l sb D cA 278 6 [(0, 4097, 128, 191)] ([(128, 191)], []) [] (os_68.map (fun w => w.1)) := ctH_of htr hvs (M := 278) (by decide) (lev := 5) (by decide) (L := []) (by decide +kernel) (fun _ h => absurd h List.not_mem_nil) (n := 20000) (sp := [(0, 0)]) (isC := fun _ => false) (c0 := c_68_2) (K := []) (by decide +kernel) rfl (List.forall_mem_cons.mpr ⟨k_68_2, (fun _ h => absurd h List.not_mem_nil)⟩)
def c_68_3 : eCut := ((0, eArgs 0 [(0, 4097, 192, 255)], [], ([(192, 255)], []), [], 0, 0), [], [(900000, 0, 0)])
set_option maxRecDepth 1000000 in
theorem k_68_3 : ckM 278 [(0, 0)] [] (fun _ => false) 20000 1 0 os_68 [c_68_3] c_68_3 = true := by decide +kernel
set_option maxRecDepth 100000 in
theorem ok_68_3 {l : Launch} (htr : l.stackTraces = false) {sb : eSB} (hvs : sb.1 60 = 1) {D : va_G} {cA : Nat → ClassId} : ctH l sb D cA 278 6 [(0, 4097, 192, 255)] ([(192, 255)], []) [] (os_68.map (fun w => w.1)) := ctH_of htr hvs (M := 278) (by decide) (lev := 5) (by decide) (L := []) (by decide +kernel) (fun _ h => absurd h List.not_mem_nil) (n := 20000) (sp := [(0, 0)]) (isC := fun _ => false) (c0 := c_68_3) (K := []) (by decide +kernel) rfl (List.forall_mem_cons.mpr ⟨k_68_3, (fun _ h => absurd h List.not_mem_nil)⟩)
def c_68_4 : eCut := ((0, eArgs 0 [(0, 4097, 256, 319)], [], ([(256, 319)], []), [], 0, 0), [], [(900000, 0, 0)])
set_option maxRecDepth 1000000 in
theorem k_68_4 : ckM 278 [(0, 0)] [] (fun _ => false) 20000 1 0 os_68 [c_68_4] c_68_4 = true := by decide +kernel
set_option maxRecDepth 100000 in
theorem ok_68_4 {l : Launch} (htr : l.stackTraces = false) {sb : eSB} (hvs : sb.1 60 = 1) {D : va_G} {cA : Nat → ClassId} : ctH l sb D cA 278 6 [(0, 4097, 256, 319)] ([(256, 319)], []) [] (os_68.map (fun w => w.1)) := ctH_of htr hvs (M := 278) (by decide) (lev := 5) (by decide) (L := []) (by decide +kernel) (fun _ h => absurd h List.not_mem_nil) (n := 20000) (sp := [(0, 0)]) (isC := fun _ => false) (c0 := c_68_4) (K := []) (by decide +kernel) rfl (List.forall_mem_cons.mpr ⟨k_68_4, (fun _ h => absurd h List.not_mem_nil)⟩)
def c_68_5 : eCut := ((0, eArgs 0 [(0, 4097, 320, 383)], [], ([(320, 383)], []), [], 0, 0), [], [(900000, 0, 0)])
set_option maxRecDepth 1000000 in
theorem k_68_5 : ckM 278 [(0, 0)] [] (fun _ => false) 20000 1 0 os_68 [c_68_5] c_68_5 = true := by decide +kernel
set_option maxRecDepth 100000 in
theorem ok_68_5 {l : Launch} (htr : l.stackTraces = false) {sb : eSB} (hvs : sb.1 60 = 1) {D : va_G} {cA : Nat → ClassId} : ctH l sb D cA 278 6 [(0, 4097, 320, 383)] ([(320, 383)], []) [] (os_68.map (fun w => w.1)) := ctH_of htr hvs (M := 278) (by decide) (lev := 5) (by decide) (L := []) (by decide +kernel) (fun _ h => absurd h List.not_mem_nil) (n := 20000) (sp := [(0, 0)]) (isC := fun _ => false) (c0 := c_68_5) (K := []) (by decide +kernel) rfl (List.forall_mem_cons.mpr ⟨k_68_5, (fun _ h => absurd h List.not_mem_nil)⟩)
def c_68_6 : eCut := ((0, eArgs 0 [(0, 4097, 384, 447)], [], ([(384, 447)], []), [], 0, 0), [], [(900000, 0, 0)])
set_option maxRecDepth 1000000 in
theorem k_68_6 : ckM 278 [(0, 0)] [] (fun _ => false) 20000 1 0 os_68 [c_68_6] c_68_6 = true := by decide +kernel
set_option maxRecDepth 100000 in
theorem ok_68_6 {l : Launch} (htr : l.stackTraces = false) {sb : eSB} (hvs : sb.1 60 = 1) {D : va_G} {cA : Nat → ClassId} : ctH l sb D cA 278 6 [(0, 4097, 384, 447)] ([(384, 447)], []) [] (os_68.map (fun w => w.1)) := ctH_of htr hvs (M := 278) (by decide) (lev := 5) (by decide) (L := []) (by decide +kernel) (fun _ h => absurd h List.not_mem_nil) (n := 20000) (sp := [(0, 0)]) (isC := fun _ => false) (c0 := c_68_6) (K := []) (by decide +kernel) rfl (List.forall_mem_cons.mpr ⟨k_68_6, (fun _ h => absurd h List.not_mem_nil)⟩)
def c_68_7 : eCut := ((0, eArgs 0 [(0, 4097, 448, 511)], [], ([(448, 511)], []), [], 0, 0), [], [(900000, 0, 0)])
set_option maxRecDepth 1000000 in
theorem k_68_7 : ckM 278 [(0, 0)] [] (fun _ => false) 20000 1 0 os_68 [c_68_7] c_68_7 = true := by decide +kernel
set_option maxRecDepth 100000 in
theorem ok_68_7 {l : Launch} (htr : l.stackTraces = false) {sb : eSB} (hvs : sb.1 60 = 1) {D : va_G} {cA : Nat → ClassId} : ctH l sb D cA 278 6 [(0, 4097, 448, 511)] ([(448, 511)], []) [] (os_68.map (fun w => w.1)) := ctH_of htr hvs (M := 278) (by decide) (lev := 5) (by decide) (L := []) (by decide +kernel) (fun _ h => absurd h List.not_mem_nil) (n := 20000) (sp := [(0, 0)]) (isC := fun _ => false) (c0 := c_68_7) (K := []) (by decide +kernel) rfl (List.forall_mem_cons.mpr ⟨k_68_7, (fun _ h => absurd h List.not_mem_nil)⟩)
def c_68_8 : eCut := ((0, eArgs 0 [(0, 4097, 512, 575)], [], ([(512, 575)], []), [], 0, 0), [], [(900000, 0, 0)])
set_option maxRecDepth 1000000 in
theorem k_68_8 : ckM 278 [(0, 0)] [] (fun _ => false) 20000 1 0 os_68 [c_68_8] c_68_8 = true := by decide +kernel
set_option maxRecDepth 100000 in
theorem ok_68_8 {l : Launch} (htr : l.stackTraces = false) {sb : eSB} (hvs : sb.1 60 = 1) {D : va_G} {cA : Nat → ClassId} : ctH l sb D cA 278 6 [(0, 4097, 512, 575)] ([(512, 575)], []) [] (os_68.map (fun w => w.1)) := ctH_of htr hvs (M := 278) (by decide) (lev := 5) (by decide) (L := []) (by decide +kernel) (fun _ h => absurd h List.not_mem_nil) (n := 20000) (sp := [(0, 0)]) (isC := fun _ => false) (c0 := c_68_8) (K := []) (by decide +kernel) rfl (List.forall_mem_cons.mpr ⟨k_68_8, (fun _ h => absurd h List.not_mem_nil)⟩)
def c_68_9 : eCut := ((0, eArgs 0 [(0, 4097, 576, 639)], [], ([(576, 639)], []), [], 0, 0), [], [(900000, 0, 0)])
set_option maxRecDepth 1000000 in
theorem k_68_9 : ckM 278 [(0, 0)] [] (fun _ => false) 20000 1 0 os_68 [c_68_9] c_68_9 = true := by decide +kernel
set_option maxRecDepth 100000 in
theorem ok_68_9 {l : Launch} (htr : l.stackTraces = false) {sb : eSB} (hvs : sb.1 60 = 1) {D : va_G} {cA : Nat → ClassId} : ctH l sb D cA 278 6 [(0, 4097, 576, 639)] ([(576, 639)], []) [] (os_68.map (fun w => w.1)) := ctH_of htr hvs (M := 278) (by decide) (lev := 5) (by decide) (L := []) (by decide +kernel) (fun _ h => absurd h List.not_mem_nil) (n := 20000) (sp := [(0, 0)]) (isC := fun _ => false) (c0 := c_68_9) (K := []) (by decide +kernel) rfl (List.forall_mem_cons.mpr ⟨k_68_9, (fun _ h => absurd h List.not_mem_nil)⟩)
def c_68_10 : eCut := ((0, eArgs 0 [(0, 4097, 640, 703)], [], ([(640, 703)], []), [], 0, 0), [], [(900000, 0, 0)])
set_option maxRecDepth 1000000 in
theorem k_68_10 : ckM 278 [(0, 0)] [] (fun _ => false) 20000 1 0 os_68 [c_68_10] c_68_10 = true := by decide +kernel
set_option maxRecDepth 100000 in
theorem ok_68_10 {l : Launch} (htr : l.stackTraces = false) {sb : eSB} (hvs : sb.1 60 = 1) {D : va_G} {cA : Nat → ClassId} : ctH l sb D cA 278 6 [(0, 4097, 640, 703)] ([(640, 703)], []) [] (os_68.map (fun w => w.1)) := ctH_of htr hvs (M := 278) (by decide) (lev := 5) (by decide) (L := []) (by decide +kernel) (fun _ h => absurd h List.not_mem_nil) (n := 20000) (sp := [(0, 0)]) (isC := fun _ => false) (c0 := c_68_10) (K := []) (by decide +kernel) rfl (List.forall_mem_cons.mpr ⟨k_68_10, (fun _ h => absurd h List.not_mem_nil)⟩)
def c_68_11 : eCut := ((0, eArgs 0 [(0, 4097, 704, 767)], [], ([(704, 767)], []), [], 0, 0), [], [(900000, 0, 0)])
