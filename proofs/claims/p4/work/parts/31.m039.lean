/-! ===== CONTRACTS, 31.m039 ===== -/
set_option maxRecDepth 1000000 in
theorem k_417_0 : ckM 229 sp_417 us_417 ic_417 20000 34 36 os_417 (c_417_0 :: K_417) c_417_0 = true := by decide +kernel
/-! BalconyPortModel.takeHalf -/
def as_418 : List eV := [(eRf 0)]
def B_418 : eB := ([((-2147483648), 2147483647), ((-2147483648), 2147483647), ((-2147483648), 2147483647), ((-2147483648), 2147483647), ((-2147483648), 2147483647), ((-2147483648), 2147483647), ((-2147483648), 2147483647), ((-2147483648), 2147483647), ((-2147483648), 2147483647), ((-2147483648), 2147483647), ((-2147483648), 2147483647), ((-2147483648), 2147483647), ((-2147483648), 2147483647), ((-2147483648), 2147483647)], [])
def hp_418 : eH := [.inr (0, 14, eTop, [(0, (eTa 4097)), (1, (eTa 12289)), (2, (eTa 20481)), (3, (eTa 28673)), (4, (eTa 36865)), (5, (eTa 45057)), (6, (eTa 53249)), (7, (eTa 61441)), (8, (eTa 69633)), (9, (eTa 77825)), (10, (eTa 86017)), (11, (eTa 94209)), (12, (eTa 102401)), (13, (eTa 110593))])]
def th_418 : List (Option eP) := [(eP2 0 0), (eP2 0 1), (eP2 0 2), (eP2 0 3), (eP2 0 4), (eP2 0 5), (eP2 0 6), (eP2 0 7), (eP2 0 8), (eP2 0 9), (eP2 0 10), (eP2 0 11), (eP2 0 12), (eP2 0 13)]
def os_418 : List (eO × List (Option eP)) := [((0, none, (B_418.1, []), hS hp_418 [(0, .inr (0, 14, eTop, [(0, (eTa 61441)), (1, (eTa 69633)), (2, (eTa 77825)), (3, (eTa 86017)), (4, (eTa 94209)), (5, (eTa 102401)), (6, (eTa 110593)), (7, (eTa 61441)), (8, (eTa 69633)), (9, (eTa 77825)), (10, (eTa 86017)), (11, (eTa 94209)), (12, (eTa 102401)), (13, (eTa 110593))]))]), nTh 14 [])]
def cd_418 (φ : List Nat) : eCd := (as_418, B_418, hp_418, th_418, os_418.map (fun w => w.1), φ)
def us_418 : eUs := []
def sp_418 : List (Nat × Nat) := []
def ic_418 (pc : Nat) : Bool := false
def c_418_0 : eCut := ((0, eArgs 0 as_418, [], B_418, hp_418, 0, 0), [], [(900000, 0, 0)])
def K_418 : List eCut := []
set_option maxRecDepth 1000000 in
theorem k_418_0 : ckM 255 sp_418 us_418 ic_418 20000 14 1 os_418 (c_418_0 :: K_418) c_418_0 = true := by decide +kernel
/-! BalconyPortModel.takeHalf -/
def as_419 : List eV := [(eRf 0)]
def B_419 : eB := ([], [])
def hp_419 : eH := [.inr (0, 20, (eNm 0 0 3), [])]
def th_419 : List (Option eP) := []
def os_419 : List (eO × List (Option eP)) := [((0, none, (B_419.1, []), hp_419), nTh 0 [])]
def cd_419 (φ : List Nat) : eCd := (as_419, B_419, hp_419, th_419, os_419.map (fun w => w.1), φ)
def us_419 : eUs := []
def sp_419 : List (Nat × Nat) := []
def ic_419 (pc : Nat) : Bool := false
def c_419_0 : eCut := ((0, eArgs 0 as_419, [], B_419, hp_419, 0, 0), [], [(900000, 0, 0)])
def K_419 : List eCut := []
set_option maxRecDepth 1000000 in
theorem k_419_0 : ckM 255 sp_419 us_419 ic_419 20000 0 1 os_419 (c_419_0 :: K_419) c_419_0 = true := by decide +kernel
/-! BalconyPortModel.takeHalf -/
def as_420 : List eV := [(eRf 0)]
def B_420 : eB := ([], [])
def hp_420 : eH := [.inr (0, 20, (eNm 0 0 9), [])]
def th_420 : List (Option eP) := []
def os_420 : List (eO × List (Option eP)) := [((0, none, (B_420.1, []), hp_420), nTh 0 [])]
def cd_420 (φ : List Nat) : eCd := (as_420, B_420, hp_420, th_420, os_420.map (fun w => w.1), φ)
def us_420 : eUs := []
def sp_420 : List (Nat × Nat) := []
def ic_420 (pc : Nat) : Bool := false
def c_420_0 : eCut := ((0, eArgs 0 as_420, [], B_420, hp_420, 0, 0), [], [(900000, 0, 0)])
def K_420 : List eCut := []
set_option maxRecDepth 1000000 in
theorem k_420_0 : ckM 255 sp_420 us_420 ic_420 20000 0 1 os_420 (c_420_0 :: K_420) c_420_0 = true := by decide +kernel
/-! BalconyPortModel.takeHalf -/
def as_421 : List eV := [(eRf 0)]
def B_421 : eB := ([], [])
def hp_421 : eH := [.inr (0, 20, eTop, [])]
def th_421 : List (Option eP) := []
def os_421 : List (eO × List (Option eP)) := [((0, none, (B_421.1, []), hp_421), nTh 0 [])]
def cd_421 (φ : List Nat) : eCd := (as_421, B_421, hp_421, th_421, os_421.map (fun w => w.1), φ)
def us_421 : eUs := []
def sp_421 : List (Nat × Nat) := []
def ic_421 (pc : Nat) : Bool := false
def c_421_0 : eCut := ((0, eArgs 0 as_421, [], B_421, hp_421, 0, 0), [], [(900000, 0, 0)])
def K_421 : List eCut := []
set_option maxRecDepth 1000000 in
theorem k_421_0 : ckM 255 sp_421 us_421 ic_421 20000 0 1 os_421 (c_421_0 :: K_421) c_421_0 = true := by decide +kernel
/-! BalconyPortModel.feed -/
def as_427 : List eV := [(eRf 0), (eTa 176129), (eTa 184321), (eTa 192513), (eTa 200705), (eTa 208897)]
def B_427 : eB := ([((-2147483648), 2147483647), (0, cmx), (0, 700), (0, 700), (0, 700), (0, 4), (0, 100000), (0, 700), (0, 700), (0, 5), ((-2147483648), 2147483647), ((-2147483648), 2147483647), (0, 999), ((-2147483648), 2147483647), (0, 40), (0, 8), (0, 100), ((-2147483648), 2147483647), (0, 1), (0, 40), (0, 8), ((-2147483648), 2147483647), ((-2147483648), 2147483647), ((-2147483648), 2147483647), ((-2147483648), 2147483647), ((-2147483648), 2147483647), (0, cmx), (0, cmx), (0, cmx), (0, cmx), (0, cmx)], [(1004, 12289, 1152921508901814272, 1152921508901814272, 20481), (206, 12289, 1152921508901814272, 176129, 217089), (206, 217089, 1152921508901814272, 184321, 225281), (206, 225281, 1152921508901814272, 192513, 233473), (206, 233473, 1152921508901814272, 200705, 241665), (206, 241665, 1152921508901814272, 208897, 249857)])
def hp_427 : eH := [.inl (10, [(5, 59, 0, 0), (eTa 4097), (eRf 1), (eRf 2), (eRf 3), (eRf 4), (eRf 5), (eRf 6), (eRf 7), (eRf 8), (eRf 9), (eRf 10), (eRf 11), (eNm 20481 0 700), (eNm 28673 0 700), (eNm 36865 0 700), (eNm 45057 0 4), (eNm 53249 0 100000), (eNm 61441 0 700), (eNm 69633 0 700), (eNm 77825 0 5), (eTa 86017), (eTa 94209), (eRf 12), (eRf 13), (eRf 14), (eRf 15), (eRf 16), (eRf 17), (eRf 18), (eRf 19), (eNm 102401 0 999), (eTa 110593), (eNm 118785 0 40), (eNm 126977 0 8), (eRf 20), (eRf 21), (eRf 22), (eRf 23), (eRf 24), (eRf 25), (eRf 26), (eRf 27), (eRf 28), (eRf 29), (eRf 30), (eNm 135169 0 100), (eTa 143361), (eNm 151553 0 1), (eNm 159745 0 40), (eNm 167937 0 8), (eRf 31), (eRf 32), (eRf 33), (eRf 34), (eRf 35)]), fr9 1, fr9 2, fr9 3, fr9 4, fr9 5, fr9 6, fr9 7, fr9 8, fr9 9, fr9 10, .inr (9, 700, (eI 0), [(0, (eNm 12289 0 cmx))]), fr9 12, fr9 13, fr9 14, fr9 15, fr9 16, fr9 17, fr9 18, fr9 19, fr9 20, fr9 21, fr9 22, fr9 23, fr9 24, fr9 25, fr9 26, fr9 27, fr9 28, fr9 29, fr9 30, fr9 31, fr9 32, fr9 33, fr9 34, fr9 35]
def th_427 : List (Option eP) := [(eP1 0 1), some (3, 0, 0), (eP1 0 13), (eP1 0 14), (eP1 0 15), (eP1 0 16), (eP1 0 17), (eP1 0 18), (eP1 0 19), (eP1 0 20), (eP1 0 21), (eP1 0 22), (eP1 0 31), (eP1 0 32), (eP1 0 33), (eP1 0 34), (eP1 0 46), (eP1 0 47), (eP1 0 48), (eP1 0 49), (eP1 0 50), some (0, 1, 0), some (0, 2, 0), some (0, 3, 0), some (0, 4, 0), some (0, 5, 0), some (3, 0, 0), some (3, 0, 0), some (3, 0, 0), some (3, 0, 0), some (3, 0, 0)]
def os_427 : List (eO × List (Option eP)) := [((0, some (eI (-1)), (bS B_427.1 [(2, 681, 700)], []), hS hp_427 [(0, oS hp_427 0 [(1, (eI 0)), (13, (eNm 20481 681 700))])]), nTh 31 []), ((0, some (eNm 20501 20 700), (bS B_427.1 [(2, 0, 680)], [(1004, 249857, 1152921508901814272, 1152921508901814272, 20501)]), hS hp_427 [(0, oS hp_427 0 [(1, (eI 0)), (13, (eNm 20501 20 700))]), (11, .inr (9, 700, (eI 0), [(0, (eNm 249857 0 cmx))]))]), nTh 31 [])]
def cd_427 (φ : List Nat) : eCd := (as_427, B_427, hp_427, th_427, os_427.map (fun w => w.1), φ)
def gd_427 (th : List (Option eP)) (φ : List Nat) : eCd := (as_427, B_427, hp_427, th, os_427.map (fun w => w.1), φ)
def us_427 : eUs := []
def sp_427 : List (Nat × Nat) := [(98, 999999), (102, 999999)]
def ic_427 (pc : Nat) : Bool := false
def c_427_0 : eCut := ((0, eArgs 0 as_427, [], B_427, hp_427, 0, 0), [], [(900000, 0, 0)])
def K_427 : List eCut := []
set_option maxRecDepth 1000000 in
theorem k_427_0 : ckM 190 sp_427 us_427 ic_427 20000 31 36 os_427 (c_427_0 :: K_427) c_427_0 = true := by decide +kernel
