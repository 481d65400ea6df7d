/-! ===== CONTRACTS, 32.c003 ===== -/
set_option maxRecDepth 1000000 in
theorem k_52_1 : ckM 22 sp_52 us_52 ic_52 20000 4 12 os_52 (c_52_0 :: K_52) c_52_1 = true := by decide +kernel
/-! BalconyPort$Plan.copyFrom -/
def as_53 : List eV := [(eRf 0), (eRf 12)]
def B_53 : eB := ([(0, 10), (0, 10), (0, 10), (0, 700), (0, 10), (0, 10), (0, 10), (0, 700)], [])
def hp_53 : eH := [.inl (3, [(eNm 4097 0 10), (eNm 12289 0 10), (eNm 20481 0 10), (eNm 28673 0 700), (eRf 1), (eRf 2), (eRf 3), (eRf 4), (eRf 5), (eRf 6), (eRf 7), (eRf 8), (eRf 9), (eRf 10), (eRf 11)]), .inr (0, 10, (eNm 0 0 20), []), .inr (0, 10, (eNm 0 0 9), []), .inr (0, 10, (eNm 0 0 9), []), .inr (0, 10, (eNm 0 0 3), []), .inr (0, 10, (eNm 0 0 9), []), .inr (0, 10, (eNm 0 0 20), []), .inr (0, 3, (eNm 0 1 9), [(0, (eNm 0 1 99))]), .inr (0, 10, (eNm 0 0 9), []), .inr (0, 700, eTop, []), .inr (0, 4, (eNm 0 0 1023), []), .inr (0, 10, (eNm 0 0 1023), []), .inl (3, [(eNm 36865 0 10), (eNm 45057 0 10), (eNm 53249 0 10), (eNm 61441 0 700), (eRf 13), (eRf 14), (eRf 15), (eRf 16), (eRf 17), (eRf 18), (eRf 19), (eRf 20), (eRf 21), (eRf 22), (eRf 23)]), .inr (0, 10, (eNm 0 0 20), []), .inr (0, 10, (eNm 0 0 9), []), .inr (0, 10, (eNm 0 0 9), []), .inr (0, 10, (eNm 0 0 3), []), .inr (0, 10, (eNm 0 0 9), []), .inr (0, 10, (eNm 0 0 20), []), .inr (0, 3, (eNm 0 1 9), [(0, (eNm 0 1 99))]), .inr (0, 10, (eNm 0 0 9), []), .inr (0, 700, eTop, []), fr9 22, fr9 23]
def th_53 : List (Option eP) := [(eP1 0 0), (eP1 0 1), (eP1 0 2), (eP1 0 3), (eP1 12 0), (eP1 12 1), (eP1 12 2), (eP1 12 3)]
def os_53 : List (eO × List (Option eP)) := [((0, none, (B_53.1, []), hS hp_53 [(0, oS hp_53 0 [(0, (eNm 36865 0 10)), (1, (eNm 45057 0 10)), (2, (eNm 53249 0 10)), (3, (eNm 61441 0 700))])]), nTh 8 [])]
def cd_53 (φ : List Nat) : eCd := (as_53, B_53, hp_53, th_53, os_53.map (fun w => w.1), φ)
def us_53 : eUs := [(169, 22, [cd_52 [0, 1, 2, 3, 4, 5, 6, 7, 8, 9, 10, 11]])]
def sp_53 : List (Nat × Nat) := []
def ic_53 (pc : Nat) : Bool := false
def c_53_0 : eCut := ((0, eArgs 0 as_53, [], B_53, hp_53, 0, 0), [], [(900000, 0, 0)])
def K_53 : List eCut := []
set_option maxRecDepth 1000000 in
theorem k_53_0 : ckM 21 sp_53 us_53 ic_53 20000 8 24 os_53 (c_53_0 :: K_53) c_53_0 = true := by decide +kernel
/-! BalconyPort$Scene.begin -/
def as_54 : List eV := [(eRf 0)]
def B_54 : eB := ([(0, 10), (0, 10), (0, 10), (0, 700), (0, 999)], [])
def hp_54 : eH := [.inl (5, [(eRf 1), (eRf 13), (eRf 14)]), .inl (3, [(eNm 4097 0 10), (eNm 12289 0 10), (eNm 20481 0 10), (eNm 28673 0 700), (eRf 2), (eRf 3), (eRf 4), (eRf 5), (eRf 6), (eRf 7), (eRf 8), (eRf 9), (eRf 10), (eRf 11), (eRf 12)]), fr9 2, fr9 3, .inr (3, 4, (9, 0, 10, 0), [(1000000, (eNm 0 0 9))]), fr9 5, .inr (3, 6, (9, 0, 10, 0), [(1000000, (eNm 0 0 9))]), .inr (3, 7, (9, 0, 10, 0), [(1000000, (eNm 0 0 20))]), fr9 8, fr9 9, fr9 10, fr9 11, fr9 12, .inr (0, 82, eTop, [(0, (eNm 36865 0 999)), (5, (eNm 0 0 1023)), (6, (eNm 0 0 1023)), (7, (eNm 0 0 1023)), (8, (eNm 0 0 1023)), (9, (eNm 0 0 1023)), (12, (eNm 0 0 4)), (13, (eNm 0 0 4)), (14, (eNm 0 0 4)), (15, (eNm 0 0 4)), (16, (eNm 0 0 4)), (17, (eNm 0 0 4)), (18, (eNm 0 0 4)), (19, (eNm 0 0 4)), (20, (eNm 0 0 4)), (21, (eNm 0 0 4)), (22, (eNm 0 (-1) 9)), (23, (eNm 0 (-1) 9)), (24, (eNm 0 (-1) 9)), (25, (eNm 0 (-1) 9)), (26, (eNm 0 (-1) 9)), (27, (eNm 0 (-1) 9)), (28, (eNm 0 (-1) 9)), (29, (eNm 0 (-1) 9)), (30, (eNm 0 (-1) 9)), (31, (eNm 0 (-1) 9)), (42, (eNm 0 0 9)), (43, (eNm 0 0 9)), (44, (eNm 0 0 9)), (45, (eNm 0 0 9)), (46, (eNm 0 0 9)), (47, (eNm 0 0 9)), (48, (eNm 0 0 9)), (49, (eNm 0 0 9)), (50, (eNm 0 0 9)), (51, (eNm 0 0 9)), (62, (eNm 0 0 9)), (63, (eNm 0 0 9)), (64, (eNm 0 0 9)), (65, (eNm 0 0 9)), (66, (eNm 0 0 9)), (67, (eNm 0 0 9)), (68, (eNm 0 0 9)), (69, (eNm 0 0 9)), (70, (eNm 0 0 9)), (71, (eNm 0 0 9))]), fr9 14]
def th_54 : List (Option eP) := [(eP1 1 0), (eP1 1 1), (eP1 1 2), (eP1 1 3), (eP2 13 0)]
def os_54 : List (eO × List (Option eP)) := [((0, none, (B_54.1, []), hS hp_54 [(13, .inr (0, 82, eTop, [(0, (eNm 0 0 999)), (5, (eNm 0 0 1023)), (6, (eNm 0 0 1023)), (7, (eNm 0 0 1023)), (8, (eNm 0 0 1023)), (9, (eNm 0 0 1023)), (12, (eNm 0 0 4)), (13, (eNm 0 0 4)), (14, (eNm 0 0 4)), (15, (eNm 0 0 4)), (16, (eNm 0 0 4)), (17, (eNm 0 0 4)), (18, (eNm 0 0 4)), (19, (eNm 0 0 4)), (20, (eNm 0 0 4)), (21, (eNm 0 0 4)), (22, (eNm 0 (-1) 9)), (23, (eNm 0 (-1) 9)), (24, (eNm 0 (-1) 9)), (25, (eNm 0 (-1) 9)), (26, (eNm 0 (-1) 9)), (27, (eNm 0 (-1) 9)), (28, (eNm 0 (-1) 9)), (29, (eNm 0 (-1) 9)), (30, (eNm 0 (-1) 9)), (31, (eNm 0 (-1) 9)), (42, (eNm 0 0 9)), (43, (eNm 0 0 9)), (44, (eNm 0 0 9)), (45, (eNm 0 0 9)), (46, (eNm 0 0 9)), (47, (eNm 0 0 9)), (48, (eNm 0 0 9)), (49, (eNm 0 0 9)), (50, (eNm 0 0 9)), (51, (eNm 0 0 9)), (62, (eNm 0 0 9)), (63, (eNm 0 0 9)), (64, (eNm 0 0 9)), (65, (eNm 0 0 9)), (66, (eNm 0 0 9)), (67, (eNm 0 0 9)), (68, (eNm 0 0 9)), (69, (eNm 0 0 9)), (70, (eNm 0 0 9)), (71, (eNm 0 0 9))]))]), nTh 5 [])]
def cd_54 (φ : List Nat) : eCd := (as_54, B_54, hp_54, th_54, os_54.map (fun w => w.1), φ)
def us_54 : eUs := [(5, 280, [cd_0 [13]])]
def sp_54 : List (Nat × Nat) := []
def ic_54 (pc : Nat) : Bool := bif Nat.beq pc 27 then true else (false)
def c_54_0 : eCut := ((0, eArgs 0 as_54, [], B_54, hp_54, 0, 0), [], [(900000, 0, 0), (0, 0, 0)])
def c_54_1 : eCut := ((27, [(0, (eRf 0)), (1, (eNm 45057 0 10))], [], (B_54.1 ++ [(0, 10)], []), hS hp_54 [(13, .inr (0, 82, eTop, [(0, (eNm 0 0 999)), (5, (eNm 0 0 1023)), (6, (eNm 0 0 1023)), (7, (eNm 0 0 1023)), (8, (eNm 0 0 1023)), (9, (eNm 0 0 1023)), (12, (eNm 0 0 4)), (13, (eNm 0 0 4)), (14, (eNm 0 0 4)), (15, (eNm 0 0 4)), (16, (eNm 0 0 4)), (17, (eNm 0 0 4)), (18, (eNm 0 0 4)), (19, (eNm 0 0 4)), (20, (eNm 0 0 4)), (21, (eNm 0 0 4)), (22, (eNm 0 (-1) 9)), (23, (eNm 0 (-1) 9)), (24, (eNm 0 (-1) 9)), (25, (eNm 0 (-1) 9)), (26, (eNm 0 (-1) 9)), (27, (eNm 0 (-1) 9)), (28, (eNm 0 (-1) 9)), (29, (eNm 0 (-1) 9)), (30, (eNm 0 (-1) 9)), (31, (eNm 0 (-1) 9)), (42, (eNm 0 0 9)), (43, (eNm 0 0 9)), (44, (eNm 0 0 9)), (45, (eNm 0 0 9)), (46, (eNm 0 0 9)), (47, (eNm 0 0 9)), (48, (eNm 0 0 9)), (49, (eNm 0 0 9)), (50, (eNm 0 0 9)), (51, (eNm 0 0 9)), (62, (eNm 0 0 9)), (63, (eNm 0 0 9)), (64, (eNm 0 0 9)), (65, (eNm 0 0 9)), (66, (eNm 0 0 9)), (67, (eNm 0 0 9)), (68, (eNm 0 0 9)), (69, (eNm 0 0 9)), (70, (eNm 0 0 9)), (71, (eNm 0 0 9))]))], 0, 0), nTh 5 [(0, 1, 0)], [(1, 0, 0), (10, (-1), 5)])
def K_54 : List eCut := [c_54_1]
set_option maxRecDepth 1000000 in
theorem k_54_0 : ckM 55 sp_54 us_54 ic_54 20000 5 15 os_54 (c_54_0 :: K_54) c_54_0 = true := by decide +kernel
set_option maxRecDepth 1000000 in
theorem k_54_1 : ckM 55 sp_54 us_54 ic_54 20000 5 15 os_54 (c_54_0 :: K_54) c_54_1 = true := by decide +kernel
/-! BalconyPort$Seen.lastDay -/
def as_55 : List eV := [(eRf 0)]
def B_55 : eB := ([(0, 8)], [])
def hp_55 : eH := [.inl (6, [(eNm 4097 0 8), (eRf 1), (eRf 2)]), .inr (3, 1, (9, 0, 8, 0), [(1000000, (eNm 0 0 30))]), fr9 2]
def th_55 : List (Option eP) := [(eP1 0 0)]
def os_55 : List (eO × List (Option eP)) := [((0, some (eNm 12289 0 30), (B_55.1 ++ [(0, 30)], []), hp_55), nTh 1 [(0, 0, 0)])]
def cd_55 (φ : List Nat) : eCd := (as_55, B_55, hp_55, th_55, os_55.map (fun w => w.1), φ)
def us_55 : eUs := []
def sp_55 : List (Nat × Nat) := []
def ic_55 (pc : Nat) : Bool := bif Nat.beq pc 4 then true else (false)
def c_55_0 : eCut := ((0, eArgs 0 as_55, [], B_55, hp_55, 0, 0), [], [(900000, 0, 0), (0, 0, 0)])
def c_55_1 : eCut := ((4, [(0, (eRf 0)), (1, (eNm 12289 0 30)), (2, (eNm 20481 0 8))], [], (B_55.1 ++ [(0, 30), (0, 8)], []), hp_55, 0, 0), nTh 1 [(0, 1, 0), (0, 2, 0)], [(1, 0, 0), (8, (-1), 2)])
def K_55 : List eCut := [c_55_1]
set_option maxRecDepth 1000000 in
theorem k_55_0 : ckM 107 sp_55 us_55 ic_55 20000 1 3 os_55 (c_55_0 :: K_55) c_55_0 = true := by decide +kernel
set_option maxRecDepth 1000000 in
theorem k_55_1 : ckM 107 sp_55 us_55 ic_55 20000 1 3 os_55 (c_55_0 :: K_55) c_55_1 = true := by decide +kernel
/-! BalconyPort$Seen.allows -/
def as_56 : List eV := [(eRf 0), (eNm 12289 0 30), (eNm 20481 0 90)]
def B_56 : eB := ([(0, 8), (0, 30), (0, 90)], [])
def hp_56 : eH := [.inl (6, [(eNm 4097 0 8), (eRf 1), (eRf 2)]), .inr (3, 1, (9, 0, 8, 0), [(1000000, (eNm 0 0 30))]), .inr (3, 2, (9, 0, 8, 0), [(1000000, (eNm 0 0 99))])]
def th_56 : List (Option eP) := [(eP1 0 0), some (0, 1, 0), some (0, 2, 0)]
def os_56 : List (eO × List (Option eP)) := [((0, some (eNm 28673 0 1), (B_56.1 ++ [(0, 1)], []), hp_56), nTh 3 [(0, 0, 0)])]
def cd_56 (φ : List Nat) : eCd := (as_56, B_56, hp_56, th_56, os_56.map (fun w => w.1), φ)
def us_56 : eUs := []
def sp_56 : List (Nat × Nat) := []
def ic_56 (pc : Nat) : Bool := bif Nat.beq pc 2 then true else (false)
def c_56_0 : eCut := ((0, eArgs 0 as_56, [], B_56, hp_56, 0, 0), [], [(900000, 0, 0), (0, 0, 0)])
def c_56_1 : eCut := ((2, [(0, (eRf 0)), (1, (eNm 12289 0 30)), (2, (eNm 20481 0 90)), (3, (eNm 28673 0 8))], [], (B_56.1 ++ [(0, 8)], []), hp_56, 0, 0), nTh 3 [(0, 3, 0)], [(1, 0, 0), (8, (-1), 3)])
def K_56 : List eCut := [c_56_1]
set_option maxRecDepth 1000000 in
theorem k_56_0 : ckM 105 sp_56 us_56 ic_56 20000 3 3 os_56 (c_56_0 :: K_56) c_56_0 = true := by decide +kernel
set_option maxRecDepth 1000000 in
theorem k_56_1 : ckM 105 sp_56 us_56 ic_56 20000 3 3 os_56 (c_56_0 :: K_56) c_56_1 = true := by decide +kernel
/-! BalconyPort$Seen.add -/
def as_57 : List eV := [(eRf 0), (eTa 12289), (eTa 20481)]
def B_57 : eB := ([(0, 8), ((-2147483648), 2147483647), ((-2147483648), 2147483647)], [])
def hp_57 : eH := [.inl (6, [(eNm 4097 0 8), (eRf 1), (eRf 2)]), .inr (0, 8, (eNm 0 0 30), []), .inr (0, 8, (eNm 0 0 99), [])]
def th_57 : List (Option eP) := [(eP1 0 0), some (0, 1, 0), some (0, 2, 0)]
def os_57 : List (eO × List (Option eP)) := [((0, some (eNm 28673 0 1), (B_57.1 ++ [(0, 1), (0, 8)], []), hS hp_57 [(0, oS hp_57 0 [(0, (eNm 36865 0 8))])]), nTh 3 [(0, 0, 0), (1, 0, 0)])]
def cd_57 (φ : List Nat) : eCd := (as_57, B_57, hp_57, th_57, os_57.map (fun w => w.1), φ)
def us_57 : eUs := []
def sp_57 : List (Nat × Nat) := []
def ic_57 (pc : Nat) : Bool := false
def c_57_0 : eCut := ((0, eArgs 0 as_57, [], B_57, hp_57, 0, 0), [], [(900000, 0, 0)])
def K_57 : List eCut := []
set_option maxRecDepth 1000000 in
theorem k_57_0 : ckM 104 sp_57 us_57 ic_57 20000 3 3 os_57 (c_57_0 :: K_57) c_57_0 = true := by decide +kernel
/-! BalconyPort$Stowage.leastWithLast -/
def as_58 : List eV := [(eRf 0), (eRf 14), (eNm 61441 1 1023), (eNm 69633 1 99)]
def B_58 : eB := ([(0, 10), (0, 10), (0, 10), (0, 700), ((-2147483648), 2147483647), ((-2147483648), 2147483647), (0, 999), (1, 1023), (1, 99)], [])
def hp_58 : eH := [.inl (8, [(eRf 1), (eTa 36865), (eTa 45057), (eRf 13)]), .inl (3, [(eNm 4097 0 10), (eNm 12289 0 10), (eNm 20481 0 10), (eNm 28673 0 700), (eRf 2), (eRf 3), (eRf 4), (eRf 5), (eRf 6), (eRf 7), (eRf 8), (eRf 9), (eRf 10), (eRf 11), (eRf 12)]), .inr (3, 2, (9, 0, 10, 0), [(1000000, (eNm 0 0 20))]), fr9 3, fr9 4, fr9 5, fr9 6, fr9 7, fr9 8, fr9 9, fr9 10, fr9 11, fr9 12, .inr (3, 13, (9, 0, 1024, 0), []), .inl (5, [(eRf 1), (eRf 15), (eRf 16)]), .inr (3, 15, (9, 0, 82, 0), [(0, (eNm 53249 0 999)), (5, (eNm 0 0 1023)), (6, (eNm 0 0 1023)), (7, (eNm 0 0 1023)), (8, (eNm 0 0 1023)), (9, (eNm 0 0 1023)), (12, (eNm 0 0 4)), (13, (eNm 0 0 4)), (14, (eNm 0 0 4)), (15, (eNm 0 0 4)), (16, (eNm 0 0 4)), (17, (eNm 0 0 4)), (18, (eNm 0 0 4)), (19, (eNm 0 0 4)), (20, (eNm 0 0 4)), (21, (eNm 0 0 4)), (22, (eNm 0 (-1) 9)), (23, (eNm 0 (-1) 9)), (24, (eNm 0 (-1) 9)), (25, (eNm 0 (-1) 9)), (26, (eNm 0 (-1) 9)), (27, (eNm 0 (-1) 9)), (28, (eNm 0 (-1) 9)), (29, (eNm 0 (-1) 9)), (30, (eNm 0 (-1) 9)), (31, (eNm 0 (-1) 9)), (42, (eNm 0 0 9)), (43, (eNm 0 0 9)), (44, (eNm 0 0 9)), (45, (eNm 0 0 9)), (46, (eNm 0 0 9)), (47, (eNm 0 0 9)), (48, (eNm 0 0 9)), (49, (eNm 0 0 9)), (50, (eNm 0 0 9)), (51, (eNm 0 0 9)), (62, (eNm 0 0 9)), (63, (eNm 0 0 9)), (64, (eNm 0 0 9)), (65, (eNm 0 0 9)), (66, (eNm 0 0 9)), (67, (eNm 0 0 9)), (68, (eNm 0 0 9)), (69, (eNm 0 0 9)), (70, (eNm 0 0 9)), (71, (eNm 0 0 9))]), fr9 16]
def th_58 : List (Option eP) := [(eP1 1 0), (eP1 1 1), (eP1 1 2), (eP1 1 3), (eP1 0 1), (eP1 0 2), (eP2 15 0), some (0, 2, 0), some (0, 3, 0)]
def os_58 : List (eO × List (Option eP)) := [((0, some (eTa 77825), (B_58.1 ++ [((-2147483648), 2147483647)], []), hp_58), nTh 9 [(0, 0, 0)])]
def cd_58 (φ : List Nat) : eCd := (as_58, B_58, hp_58, th_58, os_58.map (fun w => w.1), φ)
def us_58 : eUs := []
def sp_58 : List (Nat × Nat) := []
def ic_58 (pc : Nat) : Bool := bif Nat.beq pc 7 then true else (false)
def c_58_0 : eCut := ((0, eArgs 0 as_58, [], B_58, hp_58, 0, 0), [], [(900000, 0, 0), (0, 0, 0)])
def c_58_1 : eCut := ((7, [(0, (eRf 0)), (1, (eRf 14)), (2, (eNm 61441 1 1023)), (3, (eNm 69633 1 99)), (4, (eTa 77825)), (5, (eNm 86017 0 10))], [], (B_58.1 ++ [((-2147483648), 2147483647), (0, 10)], []), hp_58, 0, 0), nTh 9 [(0, 4, 0), (0, 5, 0)], [(1, 0, 0), (10, (-1), 10)])
def K_58 : List eCut := [c_58_1]
set_option maxRecDepth 1000000 in
theorem k_58_0 : ckM 117 sp_58 us_58 ic_58 20000 9 17 os_58 (c_58_0 :: K_58) c_58_0 = true := by decide +kernel
set_option maxRecDepth 1000000 in
theorem k_58_1 : ckM 117 sp_58 us_58 ic_58 20000 9 17 os_58 (c_58_0 :: K_58) c_58_1 = true := by decide +kernel
/-! BalconyPort$Stowage.compareCargo -/
def as_59 : List eV := [(eRf 0), (eNm 53249 1 1023)]
def B_59 : eB := ([(0, 10), (0, 10), (0, 10), (0, 700), ((-2147483648), 2147483647), ((-2147483648), 2147483647), (1, 1023)], [])
def hp_59 : eH := [.inl (8, [(eRf 1), (eTa 36865), (eTa 45057), (eRf 13)]), .inl (3, [(eNm 4097 0 10), (eNm 12289 0 10), (eNm 20481 0 10), (eNm 28673 0 700), (eRf 2), (eRf 3), (eRf 4), (eRf 5), (eRf 6), (eRf 7), (eRf 8), (eRf 9), (eRf 10), (eRf 11), (eRf 12)]), fr9 2, fr9 3, fr9 4, fr9 5, fr9 6, fr9 7, .inr (3, 8, (9, 0, 3, 0), [(0, (eNm 0 1 99)), (1000000, (eNm 0 1 9))]), fr9 9, fr9 10, fr9 11, fr9 12, .inr (3, 13, (9, 0, 1024, 0), [])]
def th_59 : List (Option eP) := [(eP1 1 0), (eP1 1 1), (eP1 1 2), (eP1 1 3), (eP1 0 1), (eP1 0 2), some (0, 1, 0)]
def os_59 : List (eO × List (Option eP)) := [((0, none, (B_59.1 ++ [((-2147483648), 2147483647), ((-2147483648), 2147483647)], []), hS hp_59 [(0, oS hp_59 0 [(1, (eTa 61441)), (2, (eTa 69633))])]), nTh 7 [(1, 0, 1), (1, 0, 2)])]
def cd_59 (φ : List Nat) : eCd := (as_59, B_59, hp_59, th_59, os_59.map (fun w => w.1), φ)
def us_59 : eUs := []
def sp_59 : List (Nat × Nat) := []
def ic_59 (pc : Nat) : Bool := false
def c_59_0 : eCut := ((0, eArgs 0 as_59, [], B_59, hp_59, 0, 0), [], [(900000, 0, 0)])
def K_59 : List eCut := []
set_option maxRecDepth 1000000 in
theorem k_59_0 : ckM 114 sp_59 us_59 ic_59 20000 7 14 os_59 (c_59_0 :: K_59) c_59_0 = true := by decide +kernel
/-! BalconyPort$Stowage.fewestHolds -/
def as_60 : List eV := [(eRf 0), (eRf 14)]
def B_60 : eB := ([(0, 10), (0, 10), (0, 10), (0, 700), ((-2147483648), 2147483647), ((-2147483648), 2147483647), (0, 999)], [])
def hp_60 : eH := [.inl (8, [(eRf 1), (eTa 36865), (eTa 45057), (eRf 13)]), .inl (3, [(eNm 4097 0 10), (eNm 12289 0 10), (eNm 20481 0 10), (eNm 28673 0 700), (eRf 2), (eRf 3), (eRf 4), (eRf 5), (eRf 6), (eRf 7), (eRf 8), (eRf 9), (eRf 10), (eRf 11), (eRf 12)]), .inr (3, 2, (9, 0, 10, 0), [(1000000, (eNm 0 0 20))]), fr9 3, fr9 4, fr9 5, fr9 6, fr9 7, .inr (3, 8, (9, 0, 3, 0), [(0, (eNm 0 1 99)), (1000000, (eNm 0 1 9))]), fr9 9, fr9 10, fr9 11, fr9 12, .inr (0, 1024, eTop, []), .inl (5, [(eRf 1), (eRf 15), (eRf 16)]), .inr (3, 15, (9, 0, 82, 0), [(0, (eNm 53249 0 999)), (5, (eNm 0 0 1023)), (6, (eNm 0 0 1023)), (7, (eNm 0 0 1023)), (8, (eNm 0 0 1023)), (9, (eNm 0 0 1023)), (12, (eNm 0 0 4)), (13, (eNm 0 0 4)), (14, (eNm 0 0 4)), (15, (eNm 0 0 4)), (16, (eNm 0 0 4)), (17, (eNm 0 0 4)), (18, (eNm 0 0 4)), (19, (eNm 0 0 4)), (20, (eNm 0 0 4)), (21, (eNm 0 0 4)), (22, (eNm 0 (-1) 9)), (23, (eNm 0 (-1) 9)), (24, (eNm 0 (-1) 9)), (25, (eNm 0 (-1) 9)), (26, (eNm 0 (-1) 9)), (27, (eNm 0 (-1) 9)), (28, (eNm 0 (-1) 9)), (29, (eNm 0 (-1) 9)), (30, (eNm 0 (-1) 9)), (31, (eNm 0 (-1) 9)), (42, (eNm 0 0 9)), (43, (eNm 0 0 9)), (44, (eNm 0 0 9)), (45, (eNm 0 0 9)), (46, (eNm 0 0 9)), (47, (eNm 0 0 9)), (48, (eNm 0 0 9)), (49, (eNm 0 0 9)), (50, (eNm 0 0 9)), (51, (eNm 0 0 9)), (62, (eNm 0 0 9)), (63, (eNm 0 0 9)), (64, (eNm 0 0 9)), (65, (eNm 0 0 9)), (66, (eNm 0 0 9)), (67, (eNm 0 0 9)), (68, (eNm 0 0 9)), (69, (eNm 0 0 9)), (70, (eNm 0 0 9)), (71, (eNm 0 0 9))]), fr9 16]
def th_60 : List (Option eP) := [(eP1 1 0), (eP1 1 1), (eP1 1 2), (eP1 1 3), (eP1 0 1), (eP1 0 2), (eP2 15 0)]
def os_60 : List (eO × List (Option eP)) := [((0, some (eNm 61441 (-16777216) 16777215), (B_60.1 ++ [((-16777216), 16777215)], []), hp_60), nTh 7 [(0, 0, 0)])]
def cd_60 (φ : List Nat) : eCd := (as_60, B_60, hp_60, th_60, os_60.map (fun w => w.1), φ)
def us_60 : eUs := [(94, 117, [cd_58 [0, 1, 2, 3, 4, 5, 6, 7, 8, 9, 10, 11, 12, 13, 14, 15, 16]])]
def sp_60 : List (Nat × Nat) := []
def ic_60 (pc : Nat) : Bool := bif Nat.beq pc 68 then true else (bif Nat.beq pc 19 then true else (false))
def c_60_0 : eCut := ((0, eArgs 0 as_60, [], B_60, hp_60, 0, 0), [], [(900000, 0, 0), (0, 0, 0)])
def c_60_1 : eCut := ((19, [(0, (eRf 0)), (1, (eRf 14)), (2, (eNm 61441 0 1023)), (3, (eNm 69633 1 99)), (4, (eNm 77825 0 10))], [], (B_60.1 ++ [(0, 1023), (1, 99), (0, 10)], []), hp_60, 0, 0), nTh 7 [(0, 2, 0), (0, 3, 0), (0, 4, 0)], [(2, 0, 0), (10, (-1), 9)])
def c_60_2 : eCut := ((68, [(0, (eRf 0)), (1, (eRf 14)), (2, (eNm 61441 0 1023)), (3, (eNm 69633 1 99)), (4, (eNm 77825 1 1024))], [], (B_60.1 ++ [(0, 1023), (1, 99), (1, 1024)], []), hS hp_60 [(13, .inr (0, 1024, eTop, [(0, (eNm 0 1 99))]))], 0, 0), nTh 7 [(0, 2, 0), (0, 3, 0), (0, 4, 0)], [(1, 0, 0), (1024, (-1), 9)])
def K_60 : List eCut := [c_60_1, c_60_2]
set_option maxRecDepth 1000000 in
theorem k_60_0 : ckM 115 sp_60 us_60 ic_60 20000 7 17 os_60 (c_60_0 :: K_60) c_60_0 = true := by decide +kernel
set_option maxRecDepth 1000000 in
theorem k_60_1 : ckM 115 sp_60 us_60 ic_60 20000 7 17 os_60 (c_60_0 :: K_60) c_60_1 = true := by decide +kernel
set_option maxRecDepth 1000000 in
theorem k_60_2 : ckM 115 sp_60 us_60 ic_60 20000 7 17 os_60 (c_60_0 :: K_60) c_60_2 = true := by decide +kernel
/-! BalconyPort$Fitting.orderByWidth -/
def as_61 : List eV := [(eRf 0)]
def B_61 : eB := ([(0, 10), (0, 10), (0, 10), (0, 700), ((-2147483648), 2147483647)], [])
def hp_61 : eH := [.inl (2, [(eRf 1), (eRf 13), (eTa 36865), (eRf 14), (eRf 15)]), .inl (3, [(eNm 4097 0 10), (eNm 12289 0 10), (eNm 20481 0 10), (eNm 28673 0 700), (eRf 2), (eRf 3), (eRf 4), (eRf 5), (eRf 6), (eRf 7), (eRf 8), (eRf 9), (eRf 10), (eRf 11), (eRf 12)]), fr9 2, .inr (3, 3, (9, 0, 10, 0), [(1000000, (eNm 0 0 9))]), fr9 4, fr9 5, fr9 6, fr9 7, fr9 8, fr9 9, fr9 10, fr9 11, fr9 12, fr9 13, .inr (0, 10, (eNm 0 0 9), []), fr9 15]
def th_61 : List (Option eP) := [(eP1 1 0), (eP1 1 1), (eP1 1 2), (eP1 1 3), (eP1 0 2)]
def os_61 : List (eO × List (Option eP)) := [((0, none, (B_61.1, []), hp_61), nTh 5 [])]
def cd_61 (φ : List Nat) : eCd := (as_61, B_61, hp_61, th_61, os_61.map (fun w => w.1), φ)
def us_61 : eUs := []
def sp_61 : List (Nat × Nat) := []
def ic_61 (pc : Nat) : Bool := bif Nat.beq pc 15 then true else (bif Nat.beq pc 2 then true else (false))
def c_61_0 : eCut := ((0, eArgs 0 as_61, [], B_61, hp_61, 0, 0), [], [(900000, 0, 0), (0, 0, 0), (0, 0, 0), (0, 0, 0)])
def c_61_1 : eCut := ((2, [(0, (eRf 0)), (1, (eNm 45057 0 10))], [], (B_61.1 ++ [(0, 10)], []), hp_61, 0, 0), nTh 5 [(0, 1, 0)], [(1, 0, 0), (10, (-1), 5), (900000, 0, 0), (0, 0, 0)])
def c_61_2 : eCut := ((15, [(0, (eRf 0)), (1, (eNm 45057 0 9)), (2, (eNm 53249 0 9))], [], (bS B_61.1 [(0, 1, 10)] ++ [(0, 9), (0, 9)], []), hS hp_61 [(1, oS hp_61 1 [(0, (eNm 4097 1 10))])], 0, 0), nTh 5 [(0, 1, 0), (0, 2, 0)], [(1, 0, 0), (10, (-1), 5), (1, 0, 0), (0, 1, 6)])
def K_61 : List eCut := [c_61_1, c_61_2]
set_option maxRecDepth 1000000 in
theorem k_61_0 : ckM 16 sp_61 us_61 ic_61 20000 5 16 os_61 (c_61_0 :: K_61) c_61_0 = true := by decide +kernel
set_option maxRecDepth 1000000 in
theorem k_61_1 : ckM 16 sp_61 us_61 ic_61 20000 5 16 os_61 (c_61_0 :: K_61) c_61_1 = true := by decide +kernel
set_option maxRecDepth 1000000 in
theorem k_61_2 : ckM 16 sp_61 us_61 ic_61 20000 5 16 os_61 (c_61_0 :: K_61) c_61_2 = true := by decide +kernel
/-! BalconyPort$Fitting.dearest -/
def as_62 : List eV := [(eRf 0), (eRf 16), (eNm 53249 0 9), (eTa 61441)]
def B_62 : eB := ([(0, 10), (0, 10), (0, 10), (0, 700), ((-2147483648), 2147483647), (0, 999), (0, 9), ((-2147483648), 2147483647)], [])
def hp_62 : eH := [.inl (2, [(eRf 1), (eRf 13), (eTa 36865), (eRf 14), (eRf 15)]), .inl (3, [(eNm 4097 0 10), (eNm 12289 0 10), (eNm 20481 0 10), (eNm 28673 0 700), (eRf 2), (eRf 3), (eRf 4), (eRf 5), (eRf 6), (eRf 7), (eRf 8), (eRf 9), (eRf 10), (eRf 11), (eRf 12)]), fr9 2, fr9 3, fr9 4, fr9 5, fr9 6, fr9 7, fr9 8, fr9 9, fr9 10, fr9 11, fr9 12, fr9 13, fr9 14, fr9 15, .inl (5, [(eRf 1), (eRf 17), (eRf 18)]), .inr (3, 17, (9, 0, 82, 0), [(0, (eNm 45057 0 999)), (5, (eNm 0 0 1023)), (6, (eNm 0 0 1023)), (7, (eNm 0 0 1023)), (8, (eNm 0 0 1023)), (9, (eNm 0 0 1023)), (12, (eNm 0 0 4)), (13, (eNm 0 0 4)), (14, (eNm 0 0 4)), (15, (eNm 0 0 4)), (16, (eNm 0 0 4)), (17, (eNm 0 0 4)), (18, (eNm 0 0 4)), (19, (eNm 0 0 4)), (20, (eNm 0 0 4)), (21, (eNm 0 0 4)), (22, (eNm 0 (-1) 9)), (23, (eNm 0 (-1) 9)), (24, (eNm 0 (-1) 9)), (25, (eNm 0 (-1) 9)), (26, (eNm 0 (-1) 9)), (27, (eNm 0 (-1) 9)), (28, (eNm 0 (-1) 9)), (29, (eNm 0 (-1) 9)), (30, (eNm 0 (-1) 9)), (31, (eNm 0 (-1) 9)), (42, (eNm 0 0 9)), (43, (eNm 0 0 9)), (44, (eNm 0 0 9)), (45, (eNm 0 0 9)), (46, (eNm 0 0 9)), (47, (eNm 0 0 9)), (48, (eNm 0 0 9)), (49, (eNm 0 0 9)), (50, (eNm 0 0 9)), (51, (eNm 0 0 9)), (62, (eNm 0 0 9)), (63, (eNm 0 0 9)), (64, (eNm 0 0 9)), (65, (eNm 0 0 9)), (66, (eNm 0 0 9)), (67, (eNm 0 0 9)), (68, (eNm 0 0 9)), (69, (eNm 0 0 9)), (70, (eNm 0 0 9)), (71, (eNm 0 0 9))]), fr9 18]
def th_62 : List (Option eP) := [(eP1 1 0), (eP1 1 1), (eP1 1 2), (eP1 1 3), (eP1 0 2), (eP2 17 0), some (0, 2, 0), some (0, 3, 0)]
def os_62 : List (eO × List (Option eP)) := [((0, some (eNm 69633 (-1) 9), (B_62.1 ++ [((-1), 9)], []), hp_62), nTh 8 [(0, 0, 0)])]
def cd_62 (φ : List Nat) : eCd := (as_62, B_62, hp_62, th_62, os_62.map (fun w => w.1), φ)
def us_62 : eUs := []
def sp_62 : List (Nat × Nat) := []
def ic_62 (pc : Nat) : Bool := bif Nat.beq pc 9 then true else (false)
def c_62_0 : eCut := ((0, eArgs 0 as_62, [], B_62, hp_62, 0, 0), [], [(900000, 0, 0), (0, 0, 0)])
def c_62_1 : eCut := ((9, [(0, (eRf 0)), (1, (eRf 16)), (2, (eNm 53249 0 9)), (3, (eTa 61441)), (4, (eNm 69633 (-1) 9)), (5, (eTa 77825)), (6, (eNm 86017 0 10))], [], (B_62.1 ++ [((-1), 9), ((-2147483648), 2147483647), (0, 10)], []), hp_62, 0, 0), nTh 8 [(0, 4, 0), (0, 5, 0), (0, 6, 0)], [(1, 0, 0), (10, (-1), 10)])
def K_62 : List eCut := [c_62_1]
set_option maxRecDepth 1000000 in
theorem k_62_0 : ckM 12 sp_62 us_62 ic_62 20000 8 19 os_62 (c_62_0 :: K_62) c_62_0 = true := by decide +kernel
set_option maxRecDepth 1000000 in
theorem k_62_1 : ckM 12 sp_62 us_62 ic_62 20000 8 19 os_62 (c_62_0 :: K_62) c_62_1 = true := by decide +kernel
/-! BalconyPort$Fitting.rentOf -/
def as_63 : List eV := [(eRf 0), (eRf 16), (eTa 53249), (eTa 61441)]
def B_63 : eB := ([(0, 10), (0, 10), (0, 10), (0, 700), ((-2147483648), 2147483647), (0, 999), ((-2147483648), 2147483647), ((-2147483648), 2147483647)], [])
def hp_63 : eH := [.inl (2, [(eRf 1), (eRf 13), (eTa 36865), (eRf 14), (eRf 15)]), .inl (3, [(eNm 4097 0 10), (eNm 12289 0 10), (eNm 20481 0 10), (eNm 28673 0 700), (eRf 2), (eRf 3), (eRf 4), (eRf 5), (eRf 6), (eRf 7), (eRf 8), (eRf 9), (eRf 10), (eRf 11), (eRf 12)]), fr9 2, .inr (3, 3, (9, 0, 10, 0), [(1000000, (eNm 0 0 9))]), fr9 4, fr9 5, fr9 6, fr9 7, fr9 8, fr9 9, fr9 10, fr9 11, fr9 12, fr9 13, .inr (3, 14, (9, 0, 10, 0), [(1000000, (eNm 0 0 9))]), fr9 15, .inl (5, [(eRf 1), (eRf 17), (eRf 18)]), .inr (3, 17, (9, 0, 82, 0), [(0, (eNm 45057 0 999)), (5, (eNm 0 0 1023)), (6, (eNm 0 0 1023)), (7, (eNm 0 0 1023)), (8, (eNm 0 0 1023)), (9, (eNm 0 0 1023)), (12, (eNm 0 0 4)), (13, (eNm 0 0 4)), (14, (eNm 0 0 4)), (15, (eNm 0 0 4)), (16, (eNm 0 0 4)), (17, (eNm 0 0 4)), (18, (eNm 0 0 4)), (19, (eNm 0 0 4)), (20, (eNm 0 0 4)), (21, (eNm 0 0 4)), (22, (eNm 0 (-1) 9)), (23, (eNm 0 (-1) 9)), (24, (eNm 0 (-1) 9)), (25, (eNm 0 (-1) 9)), (26, (eNm 0 (-1) 9)), (27, (eNm 0 (-1) 9)), (28, (eNm 0 (-1) 9)), (29, (eNm 0 (-1) 9)), (30, (eNm 0 (-1) 9)), (31, (eNm 0 (-1) 9)), (42, (eNm 0 0 9)), (43, (eNm 0 0 9)), (44, (eNm 0 0 9)), (45, (eNm 0 0 9)), (46, (eNm 0 0 9)), (47, (eNm 0 0 9)), (48, (eNm 0 0 9)), (49, (eNm 0 0 9)), (50, (eNm 0 0 9)), (51, (eNm 0 0 9)), (62, (eNm 0 0 9)), (63, (eNm 0 0 9)), (64, (eNm 0 0 9)), (65, (eNm 0 0 9)), (66, (eNm 0 0 9)), (67, (eNm 0 0 9)), (68, (eNm 0 0 9)), (69, (eNm 0 0 9)), (70, (eNm 0 0 9)), (71, (eNm 0 0 9))]), fr9 18]
def th_63 : List (Option eP) := [(eP1 1 0), (eP1 1 1), (eP1 1 2), (eP1 1 3), (eP1 0 2), (eP2 17 0), some (0, 2, 0), some (0, 3, 0)]
def os_63 : List (eO × List (Option eP)) := [((0, some (eTa 69633), (B_63.1 ++ [((-2147483648), 2147483647)], []), hp_63), nTh 8 [(0, 0, 0)])]
def cd_63 (φ : List Nat) : eCd := (as_63, B_63, hp_63, th_63, os_63.map (fun w => w.1), φ)
def us_63 : eUs := [(53, 12, [cd_62 [0, 1, 2, 3, 4, 5, 6, 7, 8, 9, 10, 11, 12, 13, 14, 15, 16, 17, 18]])]
def sp_63 : List (Nat × Nat) := []
def ic_63 (pc : Nat) : Bool := bif Nat.beq pc 9 then true else (false)
def c_63_0 : eCut := ((0, eArgs 0 as_63, [], B_63, hp_63, 0, 0), [], [(900000, 0, 0), (0, 0, 0)])
def c_63_1 : eCut := ((9, [(0, (eRf 0)), (1, (eRf 16)), (2, (eTa 53249)), (3, (eTa 61441)), (4, (eTa 69633)), (5, (eTa 77825)), (6, (eNm 86017 0 10))], [], (B_63.1 ++ [((-2147483648), 2147483647), ((-2147483648), 2147483647), (0, 10)], []), hp_63, 0, 0), nTh 8 [(0, 4, 0), (0, 5, 0), (0, 6, 0)], [(1, 0, 0), (10, (-1), 10)])
def K_63 : List eCut := [c_63_1]
set_option maxRecDepth 1000000 in
theorem k_63_0 : ckM 17 sp_63 us_63 ic_63 20000 8 19 os_63 (c_63_0 :: K_63) c_63_0 = true := by decide +kernel
set_option maxRecDepth 1000000 in
theorem k_63_1 : ckM 17 sp_63 us_63 ic_63 20000 8 19 os_63 (c_63_0 :: K_63) c_63_1 = true := by decide +kernel
/-! BalconyPort$Fitting.firstWall -/
def as_64 : List eV := [(eRf 0), (eRf 16), (eNm 53249 0 9), (eTa 61441), (eTa 69633), (eTa 77825)]
def B_64 : eB := ([(0, 10), (0, 10), (0, 10), (0, 700), ((-2147483648), 2147483647), (0, 999), (0, 9), ((-2147483648), 2147483647), ((-2147483648), 2147483647), ((-2147483648), 2147483647)], [])
def hp_64 : eH := [.inl (2, [(eRf 1), (eRf 13), (eTa 36865), (eRf 14), (eRf 15)]), .inl (3, [(eNm 4097 0 10), (eNm 12289 0 10), (eNm 20481 0 10), (eNm 28673 0 700), (eRf 2), (eRf 3), (eRf 4), (eRf 5), (eRf 6), (eRf 7), (eRf 8), (eRf 9), (eRf 10), (eRf 11), (eRf 12)]), fr9 2, .inr (3, 3, (9, 0, 10, 0), [(1000000, (eNm 0 0 9))]), fr9 4, fr9 5, fr9 6, fr9 7, fr9 8, fr9 9, fr9 10, fr9 11, fr9 12, fr9 13, .inr (3, 14, (9, 0, 10, 0), [(1000000, (eNm 0 0 9))]), fr9 15, .inl (5, [(eRf 1), (eRf 17), (eRf 18)]), .inr (3, 17, (9, 0, 82, 0), [(0, (eNm 45057 0 999)), (5, (eNm 0 0 1023)), (6, (eNm 0 0 1023)), (7, (eNm 0 0 1023)), (8, (eNm 0 0 1023)), (9, (eNm 0 0 1023)), (12, (eNm 0 0 4)), (13, (eNm 0 0 4)), (14, (eNm 0 0 4)), (15, (eNm 0 0 4)), (16, (eNm 0 0 4)), (17, (eNm 0 0 4)), (18, (eNm 0 0 4)), (19, (eNm 0 0 4)), (20, (eNm 0 0 4)), (21, (eNm 0 0 4)), (22, (eNm 0 (-1) 9)), (23, (eNm 0 (-1) 9)), (24, (eNm 0 (-1) 9)), (25, (eNm 0 (-1) 9)), (26, (eNm 0 (-1) 9)), (27, (eNm 0 (-1) 9)), (28, (eNm 0 (-1) 9)), (29, (eNm 0 (-1) 9)), (30, (eNm 0 (-1) 9)), (31, (eNm 0 (-1) 9)), (42, (eNm 0 0 9)), (43, (eNm 0 0 9)), (44, (eNm 0 0 9)), (45, (eNm 0 0 9)), (46, (eNm 0 0 9)), (47, (eNm 0 0 9)), (48, (eNm 0 0 9)), (49, (eNm 0 0 9)), (50, (eNm 0 0 9)), (51, (eNm 0 0 9)), (62, (eNm 0 0 9)), (63, (eNm 0 0 9)), (64, (eNm 0 0 9)), (65, (eNm 0 0 9)), (66, (eNm 0 0 9)), (67, (eNm 0 0 9)), (68, (eNm 0 0 9)), (69, (eNm 0 0 9)), (70, (eNm 0 0 9)), (71, (eNm 0 0 9))]), fr9 18]
def th_64 : List (Option eP) := [(eP1 1 0), (eP1 1 1), (eP1 1 2), (eP1 1 3), (eP1 0 2), (eP2 17 0), some (0, 2, 0), some (0, 3, 0), some (0, 4, 0), some (0, 5, 0)]
def os_64 : List (eO × List (Option eP)) := [((0, some (eNm 86017 (-1) 9), (B_64.1 ++ [((-1), 9)], []), hp_64), nTh 10 [(0, 0, 0)])]
def cd_64 (φ : List Nat) : eCd := (as_64, B_64, hp_64, th_64, os_64.map (fun w => w.1), φ)
def us_64 : eUs := [(61, 17, [cd_63 [0, 1, 2, 3, 4, 5, 6, 7, 8, 9, 10, 11, 12, 13, 14, 15, 16, 17, 18]])]
def sp_64 : List (Nat × Nat) := []
def ic_64 (pc : Nat) : Bool := bif Nat.beq pc 3 then true else (false)
def c_64_0 : eCut := ((0, eArgs 0 as_64, [], B_64, hp_64, 0, 0), [], [(900000, 0, 0), (0, 0, 0)])
def c_64_1 : eCut := ((3, [(0, (eRf 0)), (1, (eRf 16)), (2, (eNm 53249 0 9)), (3, (eTa 61441)), (4, (eTa 69633)), (5, (eTa 77825)), (6, (eNm 86017 0 10))], [], (B_64.1 ++ [(0, 10)], []), hp_64, 0, 0), nTh 10 [(0, 6, 0)], [(1, 0, 0), (10, (-1), 10)])
def K_64 : List eCut := [c_64_1]
set_option maxRecDepth 1000000 in
theorem k_64_0 : ckM 14 sp_64 us_64 ic_64 20000 10 19 os_64 (c_64_0 :: K_64) c_64_0 = true := by decide +kernel
set_option maxRecDepth 1000000 in
theorem k_64_1 : ckM 14 sp_64 us_64 ic_64 20000 10 19 os_64 (c_64_0 :: K_64) c_64_1 = true := by decide +kernel
/-! BalconyPort$Fitting.share -/
def as_65 : List eV := [(eRf 0), (eRf 16)]
def B_65 : eB := ([(0, 10), (0, 10), (0, 10), (0, 700), ((-2147483648), 2147483647), (0, 999)], [])
def hp_65 : eH := [.inl (2, [(eRf 1), (eRf 13), (eTa 36865), (eRf 14), (eRf 15)]), .inl (3, [(eNm 4097 0 10), (eNm 12289 0 10), (eNm 20481 0 10), (eNm 28673 0 700), (eRf 2), (eRf 3), (eRf 4), (eRf 5), (eRf 6), (eRf 7), (eRf 8), (eRf 9), (eRf 10), (eRf 11), (eRf 12)]), fr9 2, .inr (3, 3, (9, 0, 10, 0), [(1000000, (eNm 0 0 9))]), fr9 4, fr9 5, fr9 6, fr9 7, fr9 8, fr9 9, fr9 10, fr9 11, fr9 12, .inr (0, 10, eTop, []), .inr (0, 10, (eNm 0 0 9), []), fr9 15, .inl (5, [(eRf 1), (eRf 17), (eRf 18)]), .inr (3, 17, (9, 0, 82, 0), [(0, (eNm 45057 0 999)), (5, (eNm 0 0 1023)), (6, (eNm 0 0 1023)), (7, (eNm 0 0 1023)), (8, (eNm 0 0 1023)), (9, (eNm 0 0 1023)), (12, (eNm 0 0 4)), (13, (eNm 0 0 4)), (14, (eNm 0 0 4)), (15, (eNm 0 0 4)), (16, (eNm 0 0 4)), (17, (eNm 0 0 4)), (18, (eNm 0 0 4)), (19, (eNm 0 0 4)), (20, (eNm 0 0 4)), (21, (eNm 0 0 4)), (22, (eNm 0 (-1) 9)), (23, (eNm 0 (-1) 9)), (24, (eNm 0 (-1) 9)), (25, (eNm 0 (-1) 9)), (26, (eNm 0 (-1) 9)), (27, (eNm 0 (-1) 9)), (28, (eNm 0 (-1) 9)), (29, (eNm 0 (-1) 9)), (30, (eNm 0 (-1) 9)), (31, (eNm 0 (-1) 9)), (42, (eNm 0 0 9)), (43, (eNm 0 0 9)), (44, (eNm 0 0 9)), (45, (eNm 0 0 9)), (46, (eNm 0 0 9)), (47, (eNm 0 0 9)), (48, (eNm 0 0 9)), (49, (eNm 0 0 9)), (50, (eNm 0 0 9)), (51, (eNm 0 0 9)), (62, (eNm 0 0 9)), (63, (eNm 0 0 9)), (64, (eNm 0 0 9)), (65, (eNm 0 0 9)), (66, (eNm 0 0 9)), (67, (eNm 0 0 9)), (68, (eNm 0 0 9)), (69, (eNm 0 0 9)), (70, (eNm 0 0 9)), (71, (eNm 0 0 9))]), fr9 18]
def th_65 : List (Option eP) := [(eP1 1 0), (eP1 1 1), (eP1 1 2), (eP1 1 3), (eP1 0 2), (eP2 17 0)]
def os_65 : List (eO × List (Option eP)) := [((0, none, (B_65.1 ++ [((-2147483648), 2147483647)], []), hS hp_65 [(0, oS hp_65 0 [(2, (eTa 53249))])]), nTh 6 [(1, 0, 2)])]
def cd_65 (φ : List Nat) : eCd := (as_65, B_65, hp_65, th_65, os_65.map (fun w => w.1), φ)
def us_65 : eUs := [(1, 16, [cd_61 [0, 1, 2, 3, 4, 5, 6, 7, 8, 9, 10, 11, 12, 13, 14, 15]]), (26, 17, [cd_63 [0, 1, 2, 3, 4, 5, 6, 7, 8, 9, 10, 11, 12, 13, 14, 15, 16, 17, 18]]), (90, 14, [cd_64 [0, 1, 2, 3, 4, 5, 6, 7, 8, 9, 10, 11, 12, 13, 14, 15, 16, 17, 18]])]
def sp_65 : List (Nat × Nat) := []
def ic_65 (pc : Nat) : Bool := bif Nat.beq pc 41 then true else (false)
def c_65_0 : eCut := ((0, eArgs 0 as_65, [], B_65, hp_65, 0, 0), [], [(900000, 0, 0), (0, 0, 0)])
def c_65_1 : eCut := ((41, [(0, (eRf 0)), (1, (eRf 16)), (2, (eNm 53249 0 1023)), (3, (eNm 61441 0 1023)), (4, (eTa 69633)), (5, (eNm 77825 0 10))], [], (B_65.1 ++ [(0, 1023), (0, 1023), ((-2147483648), 2147483647), (0, 10), ((-2147483648), 2147483647)], []), hS hp_65 [(0, oS hp_65 0 [(2, (eTa 86017))])], 0, 0), nTh 6 [(0, 2, 0), (0, 3, 0), (0, 4, 0), (0, 5, 0), (1, 0, 2)], [(1, 0, 0), (10, (-1), 9)])
def K_65 : List eCut := [c_65_1]
set_option maxRecDepth 1000000 in
theorem k_65_0 : ckM 18 sp_65 us_65 ic_65 20000 6 19 os_65 (c_65_0 :: K_65) c_65_0 = true := by decide +kernel
set_option maxRecDepth 1000000 in
theorem k_65_1 : ckM 18 sp_65 us_65 ic_65 20000 6 19 os_65 (c_65_0 :: K_65) c_65_1 = true := by decide +kernel
/-! BalconyPort$Fitting.hasRoomForAll -/
def as_66 : List eV := [(eRf 0), (eRf 16), (eNm 53249 0 1023)]
def B_66 : eB := ([(0, 10), (0, 10), (0, 10), (0, 700), ((-2147483648), 2147483647), (0, 999), (0, 1023)], [])
def hp_66 : eH := [.inl (2, [(eRf 1), (eRf 13), (eTa 36865), (eRf 14), (eRf 15)]), .inl (3, [(eNm 4097 0 10), (eNm 12289 0 10), (eNm 20481 0 10), (eNm 28673 0 700), (eRf 2), (eRf 3), (eRf 4), (eRf 5), (eRf 6), (eRf 7), (eRf 8), (eRf 9), (eRf 10), (eRf 11), (eRf 12)]), fr9 2, .inr (3, 3, (9, 0, 10, 0), [(1000000, (eNm 0 0 9))]), fr9 4, fr9 5, fr9 6, fr9 7, fr9 8, fr9 9, fr9 10, fr9 11, fr9 12, fr9 13, fr9 14, .inr (0, 10, eTop, []), .inl (5, [(eRf 1), (eRf 17), (eRf 18)]), .inr (3, 17, (9, 0, 82, 0), [(0, (eNm 45057 0 999)), (5, (eNm 0 0 1023)), (6, (eNm 0 0 1023)), (7, (eNm 0 0 1023)), (8, (eNm 0 0 1023)), (9, (eNm 0 0 1023)), (12, (eNm 0 0 4)), (13, (eNm 0 0 4)), (14, (eNm 0 0 4)), (15, (eNm 0 0 4)), (16, (eNm 0 0 4)), (17, (eNm 0 0 4)), (18, (eNm 0 0 4)), (19, (eNm 0 0 4)), (20, (eNm 0 0 4)), (21, (eNm 0 0 4)), (22, (eNm 0 (-1) 9)), (23, (eNm 0 (-1) 9)), (24, (eNm 0 (-1) 9)), (25, (eNm 0 (-1) 9)), (26, (eNm 0 (-1) 9)), (27, (eNm 0 (-1) 9)), (28, (eNm 0 (-1) 9)), (29, (eNm 0 (-1) 9)), (30, (eNm 0 (-1) 9)), (31, (eNm 0 (-1) 9)), (42, (eNm 0 0 9)), (43, (eNm 0 0 9)), (44, (eNm 0 0 9)), (45, (eNm 0 0 9)), (46, (eNm 0 0 9)), (47, (eNm 0 0 9)), (48, (eNm 0 0 9)), (49, (eNm 0 0 9)), (50, (eNm 0 0 9)), (51, (eNm 0 0 9)), (62, (eNm 0 0 9)), (63, (eNm 0 0 9)), (64, (eNm 0 0 9)), (65, (eNm 0 0 9)), (66, (eNm 0 0 9)), (67, (eNm 0 0 9)), (68, (eNm 0 0 9)), (69, (eNm 0 0 9)), (70, (eNm 0 0 9)), (71, (eNm 0 0 9))]), fr9 18]
def th_66 : List (Option eP) := [(eP1 1 0), (eP1 1 1), (eP1 1 2), (eP1 1 3), (eP1 0 2), (eP2 17 0), some (0, 2, 0)]
def os_66 : List (eO × List (Option eP)) := [((0, some (eNm 61441 0 1), (B_66.1 ++ [(0, 1)], []), hp_66), nTh 7 [(0, 0, 0)])]
def cd_66 (φ : List Nat) : eCd := (as_66, B_66, hp_66, th_66, os_66.map (fun w => w.1), φ)
def us_66 : eUs := [(5, 280, [cd_2 [15]])]
def sp_66 : List (Nat × Nat) := []
def ic_66 (pc : Nat) : Bool := bif Nat.beq pc 111 then true else (bif Nat.beq pc 62 then true else (bif Nat.beq pc 10 then true else (false)))
def c_66_0 : eCut := ((0, eArgs 0 as_66, [], B_66, hp_66, 0, 0), [], [(900000, 0, 0), (0, 0, 0)])
def c_66_1 : eCut := ((10, [(0, (eRf 0)), (1, (eRf 16)), (2, (eNm 53249 0 1023)), (3, (eNm 61441 0 10))], [], (B_66.1 ++ [(0, 10)], []), hp_66, 0, 0), nTh 7 [(0, 3, 0)], [(3, 0, 0), (10, (-1), 7)])
def c_66_2 : eCut := ((62, [(0, (eRf 0)), (1, (eRf 16)), (2, (eNm 53249 0 1023)), (3, (eNm 61441 0 1023)), (4, (eNm 69633 0 10))], [], (B_66.1 ++ [(0, 1023), (0, 10)], []), hp_66, 0, 0), nTh 7 [(0, 3, 0), (0, 4, 0)], [(2, 0, 0), (10, (-1), 8)])
def c_66_3 : eCut := ((111, [(0, (eRf 0)), (1, (eRf 16)), (2, (eNm 53249 0 1023)), (3, (eNm 61441 0 1023)), (4, (eTa 69633)), (5, (eNm 77825 0 9))], [], (B_66.1 ++ [(0, 1023), ((-2147483648), 2147483647), (0, 9)], []), hp_66, 0, 0), nTh 7 [(0, 3, 0), (0, 4, 0), (0, 5, 0)], [(1, 0, 0), (0, 1, 9)])
def K_66 : List eCut := [c_66_1, c_66_2, c_66_3]
set_option maxRecDepth 1000000 in
theorem k_66_0 : ckM 15 sp_66 us_66 ic_66 20000 7 19 os_66 (c_66_0 :: K_66) c_66_0 = true := by decide +kernel
set_option maxRecDepth 1000000 in
theorem k_66_1 : ckM 15 sp_66 us_66 ic_66 20000 7 19 os_66 (c_66_0 :: K_66) c_66_1 = true := by decide +kernel
set_option maxRecDepth 1000000 in
theorem k_66_2 : ckM 15 sp_66 us_66 ic_66 20000 7 19 os_66 (c_66_0 :: K_66) c_66_2 = true := by decide +kernel
set_option maxRecDepth 1000000 in
theorem k_66_3 : ckM 15 sp_66 us_66 ic_66 20000 7 19 os_66 (c_66_0 :: K_66) c_66_3 = true := by decide +kernel
/-! BalconyPort$Fitting.fewestWidened -/
def as_67 : List eV := [(eRf 0), (eRf 16)]
def B_67 : eB := ([(0, 10), (0, 10), (0, 10), (0, 700), ((-2147483648), 2147483647), (0, 999)], [])
def hp_67 : eH := [.inl (2, [(eRf 1), (eRf 13), (eTa 36865), (eRf 14), (eRf 15)]), .inl (3, [(eNm 4097 0 10), (eNm 12289 0 10), (eNm 20481 0 10), (eNm 28673 0 700), (eRf 2), (eRf 3), (eRf 4), (eRf 5), (eRf 6), (eRf 7), (eRf 8), (eRf 9), (eRf 10), (eRf 11), (eRf 12)]), fr9 2, .inr (3, 3, (9, 0, 10, 0), [(1000000, (eNm 0 0 9))]), fr9 4, fr9 5, fr9 6, fr9 7, fr9 8, fr9 9, fr9 10, fr9 11, fr9 12, fr9 13, fr9 14, .inr (0, 10, eTop, []), .inl (5, [(eRf 1), (eRf 17), (eRf 18)]), .inr (3, 17, (9, 0, 82, 0), [(0, (eNm 45057 0 999)), (5, (eNm 0 0 1023)), (6, (eNm 0 0 1023)), (7, (eNm 0 0 1023)), (8, (eNm 0 0 1023)), (9, (eNm 0 0 1023)), (12, (eNm 0 0 4)), (13, (eNm 0 0 4)), (14, (eNm 0 0 4)), (15, (eNm 0 0 4)), (16, (eNm 0 0 4)), (17, (eNm 0 0 4)), (18, (eNm 0 0 4)), (19, (eNm 0 0 4)), (20, (eNm 0 0 4)), (21, (eNm 0 0 4)), (22, (eNm 0 (-1) 9)), (23, (eNm 0 (-1) 9)), (24, (eNm 0 (-1) 9)), (25, (eNm 0 (-1) 9)), (26, (eNm 0 (-1) 9)), (27, (eNm 0 (-1) 9)), (28, (eNm 0 (-1) 9)), (29, (eNm 0 (-1) 9)), (30, (eNm 0 (-1) 9)), (31, (eNm 0 (-1) 9)), (42, (eNm 0 0 9)), (43, (eNm 0 0 9)), (44, (eNm 0 0 9)), (45, (eNm 0 0 9)), (46, (eNm 0 0 9)), (47, (eNm 0 0 9)), (48, (eNm 0 0 9)), (49, (eNm 0 0 9)), (50, (eNm 0 0 9)), (51, (eNm 0 0 9)), (62, (eNm 0 0 9)), (63, (eNm 0 0 9)), (64, (eNm 0 0 9)), (65, (eNm 0 0 9)), (66, (eNm 0 0 9)), (67, (eNm 0 0 9)), (68, (eNm 0 0 9)), (69, (eNm 0 0 9)), (70, (eNm 0 0 9)), (71, (eNm 0 0 9))]), fr9 18]
def th_67 : List (Option eP) := [(eP1 1 0), (eP1 1 1), (eP1 1 2), (eP1 1 3), (eP1 0 2), (eP2 17 0)]
def os_67 : List (eO × List (Option eP)) := [((0, some (eNm 53249 (-1) 1023), (B_67.1 ++ [((-1), 1023)], []), hp_67), nTh 6 [(0, 0, 0)])]
def cd_67 (φ : List Nat) : eCd := (as_67, B_67, hp_67, th_67, os_67.map (fun w => w.1), φ)
def us_67 : eUs := [(43, 15, [cd_66 [0, 1, 2, 3, 4, 5, 6, 7, 8, 9, 10, 11, 12, 13, 14, 15, 16, 17, 18]])]
def sp_67 : List (Nat × Nat) := []
def ic_67 (pc : Nat) : Bool := bif Nat.beq pc 19 then true else (false)
def c_67_0 : eCut := ((0, eArgs 0 as_67, [], B_67, hp_67, 0, 0), [], [(900000, 0, 0), (0, 0, 0)])
def c_67_1 : eCut := ((19, [(0, (eRf 0)), (1, (eRf 16)), (2, (eNm 53249 (-1) 1023)), (3, (eNm 61441 0 11)), (4, (eNm 69633 1 1024)), (5, (eNm 77825 0 1024))], [], (B_67.1 ++ [((-1), 1023), (0, 11), (1, 1024), (0, 1024)], []), hp_67, 0, 0), nTh 6 [(0, 2, 0), (0, 3, 0), (0, 4, 0), (0, 5, 0)], [(1, 0, 0), (1024, (-1), 9)])
def K_67 : List eCut := [c_67_1]
set_option maxRecDepth 1000000 in
theorem k_67_0 : ckM 13 sp_67 us_67 ic_67 20000 6 19 os_67 (c_67_0 :: K_67) c_67_0 = true := by decide +kernel
set_option maxRecDepth 1000000 in
theorem k_67_1 : ckM 13 sp_67 us_67 ic_67 20000 6 19 os_67 (c_67_0 :: K_67) c_67_1 = true := by decide +kernel
/-! java/lang/Integer.numberOfTrailingZeros -/
def as_68 : List eV := [(0, 4097, 1, 1023)]
def B_68 : eB := ([(1, 1023)], [])
def hp_68 : eH := []
def th_68 : List (Option eP) := [some (0, 0, 0)]
def os_68 : List (eO × List (Option eP)) := [((0, some (eNm 12289 0 9), ([(1, 1023), (0, 9)], []), []), [none, some (0, 0, 0)])]
def cd_68 (φ : List Nat) : eCd := (as_68, B_68, hp_68, th_68, os_68.map (fun w => w.1), φ)
def c_68_0 : eCut := ((0, eArgs 0 [(0, 4097, 1, 63)], [], ([(1, 63)], []), [], 0, 0), [], [(900000, 0, 0)])
set_option maxRecDepth 1000000 in
theorem k_68_0 : ckM 278 [(0, 0)] [] (fun _ => false) 20000 1 0 os_68 [c_68_0] c_68_0 = true := by decide +kernel
def c_68_1 : eCut := ((0, eArgs 0 [(0, 4097, 64, 127)], [], ([(64, 127)], []), [], 0, 0), [], [(900000, 0, 0)])
set_option maxRecDepth 1000000 in
theorem k_68_1 : ckM 278 [(0, 0)] [] (fun _ => false) 20000 1 0 os_68 [c_68_1] c_68_1 = true := by decide +kernel
def c_68_2 : eCut := ((0, eArgs 0 [(0, 4097, 128, 191)], [], ([(128, 191)], []), [], 0, 0), [], [(900000, 0, 0)])
set_option maxRecDepth 1000000 in
theorem k_68_2 : ckM 278 [(0, 0)] [] (fun _ => false) 20000 1 0 os_68 [c_68_2] c_68_2 = true := by decide +kernel
def c_68_3 : eCut := ((0, eArgs 0 [(0, 4097, 192, 255)], [], ([(192, 255)], []), [], 0, 0), [], [(900000, 0, 0)])
set_option maxRecDepth 1000000 in
theorem k_68_3 : ckM 278 [(0, 0)] [] (fun _ => false) 20000 1 0 os_68 [c_68_3] c_68_3 = true := by decide +kernel
def c_68_4 : eCut := ((0, eArgs 0 [(0, 4097, 256, 319)], [], ([(256, 319)], []), [], 0, 0), [], [(900000, 0, 0)])
set_option maxRecDepth 1000000 in
theorem k_68_4 : ckM 278 [(0, 0)] [] (fun _ => false) 20000 1 0 os_68 [c_68_4] c_68_4 = true := by decide +kernel
def c_68_5 : eCut := ((0, eArgs 0 [(0, 4097, 320, 383)], [], ([(320, 383)], []), [], 0, 0), [], [(900000, 0, 0)])
set_option maxRecDepth 1000000 in
theorem k_68_5 : ckM 278 [(0, 0)] [] (fun _ => false) 20000 1 0 os_68 [c_68_5] c_68_5 = true := by decide +kernel
def c_68_6 : eCut := ((0, eArgs 0 [(0, 4097, 384, 447)], [], ([(384, 447)], []), [], 0, 0), [], [(900000, 0, 0)])
set_option maxRecDepth 1000000 in
theorem k_68_6 : ckM 278 [(0, 0)] [] (fun _ => false) 20000 1 0 os_68 [c_68_6] c_68_6 = true := by decide +kernel
def c_68_7 : eCut := ((0, eArgs 0 [(0, 4097, 448, 511)], [], ([(448, 511)], []), [], 0, 0), [], [(900000, 0, 0)])
