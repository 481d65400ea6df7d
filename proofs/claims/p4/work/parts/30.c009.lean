/-! ===== CONTRACTS, 32.c009 ===== -/
set_option maxRecDepth 1000000 in
theorem k_85_1 : ckM 33 sp_85 us_85 ic_85 20000 10 3 os_85 (c_85_0 :: K_85) c_85_1 = true := by decide +kernel
set_option maxRecDepth 1000000 in
theorem k_85_2 : ckM 33 sp_85 us_85 ic_85 20000 10 3 os_85 (c_85_0 :: K_85) c_85_2 = true := by decide +kernel
set_option maxRecDepth 1000000 in
theorem k_85_3 : ckM 33 sp_85 us_85 ic_85 20000 10 3 os_85 (c_85_0 :: K_85) c_85_3 = true := by decide +kernel
/-! BalconyPort$Reader.isWord -/
def as_86 : List eV := [(eRf 0), (5, 3, 0, 0)]
def B_86 : eB := ([(0, cmx), (0, 700), ((-1), 700), (0, 5), (0, 700), (0, 700), (0, 61), (0, 700), ((-1), 9999), (0, 1)], [(1004, 4097, 1152921508901814272, 1152921508901814272, 36865), (7, 4097, 1152921508901814272, 61441, 53249), (8, 4097, 1152921508901814272, 61441, 45057)])
def hp_86 : eH := [.inl (4, [(eRf 1), (eRf 2), (eNm 12289 0 700), (eNm 20481 (-1) 700), (eNm 28673 0 5), (eNm 36865 0 700), (eNm 45057 0 700), (eNm 53249 0 61), (eNm 61441 0 700), (eNm 69633 (-1) 9999), (eNm 77825 0 1)]), fr9 1, .inr (10, 700, (eI 0), [(0, (eNm 4097 0 cmx))])]
def th_86 : List (Option eP) := [some (3, 0, 0), (eP1 0 2), (eP1 0 3), (eP1 0 4), (eP1 0 5), (eP1 0 6), (eP1 0 7), (eP1 0 8), (eP1 0 9), (eP1 0 10)]
def os_86 : List (eO × List (Option eP)) := [((0, some (eI 0), (B_86.1, [(13, 4097, 1152921508901814272, 61441, 1152921508901814272)]), hp_86), nTh 10 []), ((0, some (eI 1), (bS B_86.1 [(4, 7, 700), (6, 1, 1), (7, 0, 693)], [(13, 4097, 1152921508901814272, 61441, 1152921508901814273)]), hS hp_86 [(0, oS hp_86 0 [(5, (eNm 36865 7 700)), (7, (eNm 53249 1 1)), (8, (eNm 61441 0 693))])]), nTh 10 [])]
def cd_86 (φ : List Nat) : eCd := (as_86, B_86, hp_86, th_86, os_86.map (fun w => w.1), φ)
def gd_86 (th : List (Option eP)) (φ : List Nat) : eCd := (as_86, B_86, hp_86, th, os_86.map (fun w => w.1), φ)
def us_86 : eUs := [(42, 49, [gd_82 [some (3, 4096, 0), (eP1 0 2), (eP1 0 3), (eP1 0 4), (eP1 0 5), (eP1 0 6), (eP1 0 7), (eP1 0 8), (eP1 0 9), (eP1 0 10), some (0, 1, 0)] [0, 1, 2]])]
def sp_86 : List (Nat × Nat) := [(21, 999999)]
def ic_86 (pc : Nat) : Bool := false
def c_86_0 : eCut := ((0, eArgs 0 as_86, [], B_86, hp_86, 0, 0), [], [(900000, 0, 0)])
def K_86 : List eCut := []
set_option maxRecDepth 1000000 in
theorem k_86_0 : ckM 32 sp_86 us_86 ic_86 20000 10 3 os_86 (c_86_0 :: K_86) c_86_0 = true := by decide +kernel
/-! BalconyPort$Reader.isWord -/
def as_87 : List eV := [(eRf 0), (5, 5, 0, 0)]
def B_87 : eB := ([(0, cmx), (0, 700), ((-1), 700), (0, 5), (0, 700), (0, 700), (0, 61), (0, 700), ((-1), 9999), (0, 1)], [(1004, 4097, 1152921508901814272, 1152921508901814272, 36865), (7, 4097, 1152921508901814272, 61441, 53249), (8, 4097, 1152921508901814272, 61441, 45057)])
def hp_87 : eH := [.inl (4, [(eRf 1), (eRf 2), (eNm 12289 0 700), (eNm 20481 (-1) 700), (eNm 28673 0 5), (eNm 36865 0 700), (eNm 45057 0 700), (eNm 53249 0 61), (eNm 61441 0 700), (eNm 69633 (-1) 9999), (eNm 77825 0 1)]), fr9 1, .inr (10, 700, (eI 0), [(0, (eNm 4097 0 cmx))])]
def th_87 : List (Option eP) := [some (3, 0, 0), (eP1 0 2), (eP1 0 3), (eP1 0 4), (eP1 0 5), (eP1 0 6), (eP1 0 7), (eP1 0 8), (eP1 0 9), (eP1 0 10)]
def os_87 : List (eO × List (Option eP)) := [((0, some (eI 0), (B_87.1, [(14, 4097, 1152921508901814272, 61441, 1152921508901814272)]), hp_87), nTh 10 []), ((0, some (eI 1), (bS B_87.1 [(4, 4, 700), (6, 1, 1), (7, 0, 696)], [(14, 4097, 1152921508901814272, 61441, 1152921508901814273)]), hS hp_87 [(0, oS hp_87 0 [(5, (eNm 36865 4 700)), (7, (eNm 53249 1 1)), (8, (eNm 61441 0 696))])]), nTh 10 [])]
def cd_87 (φ : List Nat) : eCd := (as_87, B_87, hp_87, th_87, os_87.map (fun w => w.1), φ)
def gd_87 (th : List (Option eP)) (φ : List Nat) : eCd := (as_87, B_87, hp_87, th, os_87.map (fun w => w.1), φ)
def us_87 : eUs := [(42, 49, [gd_82 [some (3, 4096, 0), (eP1 0 2), (eP1 0 3), (eP1 0 4), (eP1 0 5), (eP1 0 6), (eP1 0 7), (eP1 0 8), (eP1 0 9), (eP1 0 10), some (0, 1, 0)] [0, 1, 2]])]
def sp_87 : List (Nat × Nat) := [(21, 999999)]
def ic_87 (pc : Nat) : Bool := false
def c_87_0 : eCut := ((0, eArgs 0 as_87, [], B_87, hp_87, 0, 0), [], [(900000, 0, 0)])
def K_87 : List eCut := []
set_option maxRecDepth 1000000 in
theorem k_87_0 : ckM 32 sp_87 us_87 ic_87 20000 10 3 os_87 (c_87_0 :: K_87) c_87_0 = true := by decide +kernel
/-! BalconyPort$Reader.isWord -/
def as_88 : List eV := [(eRf 0), (5, 7, 0, 0)]
def B_88 : eB := ([(0, cmx), (0, 700), ((-1), 700), (0, 5), (0, 700), (0, 700), (0, 61), (0, 700), ((-1), 9999), (0, 1)], [(1004, 4097, 1152921508901814272, 1152921508901814272, 36865), (7, 4097, 1152921508901814272, 61441, 53249), (8, 4097, 1152921508901814272, 61441, 45057)])
def hp_88 : eH := [.inl (4, [(eRf 1), (eRf 2), (eNm 12289 0 700), (eNm 20481 (-1) 700), (eNm 28673 0 5), (eNm 36865 0 700), (eNm 45057 0 700), (eNm 53249 0 61), (eNm 61441 0 700), (eNm 69633 (-1) 9999), (eNm 77825 0 1)]), fr9 1, .inr (10, 700, (eI 0), [(0, (eNm 4097 0 cmx))])]
def th_88 : List (Option eP) := [some (3, 0, 0), (eP1 0 2), (eP1 0 3), (eP1 0 4), (eP1 0 5), (eP1 0 6), (eP1 0 7), (eP1 0 8), (eP1 0 9), (eP1 0 10)]
def os_88 : List (eO × List (Option eP)) := [((0, some (eI 0), (B_88.1, [(15, 4097, 1152921508901814272, 61441, 1152921508901814272)]), hp_88), nTh 10 []), ((0, some (eI 1), (bS B_88.1 [(4, 4, 700), (6, 1, 1), (7, 0, 696)], [(15, 4097, 1152921508901814272, 61441, 1152921508901814273)]), hS hp_88 [(0, oS hp_88 0 [(5, (eNm 36865 4 700)), (7, (eNm 53249 1 1)), (8, (eNm 61441 0 696))])]), nTh 10 [])]
def cd_88 (φ : List Nat) : eCd := (as_88, B_88, hp_88, th_88, os_88.map (fun w => w.1), φ)
def gd_88 (th : List (Option eP)) (φ : List Nat) : eCd := (as_88, B_88, hp_88, th, os_88.map (fun w => w.1), φ)
def us_88 : eUs := [(42, 49, [gd_82 [some (3, 4096, 0), (eP1 0 2), (eP1 0 3), (eP1 0 4), (eP1 0 5), (eP1 0 6), (eP1 0 7), (eP1 0 8), (eP1 0 9), (eP1 0 10), some (0, 1, 0)] [0, 1, 2]])]
def sp_88 : List (Nat × Nat) := [(21, 999999)]
def ic_88 (pc : Nat) : Bool := false
def c_88_0 : eCut := ((0, eArgs 0 as_88, [], B_88, hp_88, 0, 0), [], [(900000, 0, 0)])
def K_88 : List eCut := []
