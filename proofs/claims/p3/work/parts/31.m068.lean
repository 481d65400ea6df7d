/-! ===== CONTRACTS, 31.m068 ===== -/
set_option maxRecDepth 1000000 in
theorem k_552_0 : ckM 229 sp_552 us_552 ic_552 20000 34 36 os_552 (c_552_0 :: K_552) c_552_0 = true := by decide +kernel
/-! BalconyPortModel.takeHalf -/
def as_553 : List eV := [(eRf 0)]
def B_553 : eB := ([((-2147483648), 2147483647), ((-2147483648), 2147483647), ((-2147483648), 2147483647), ((-2147483648), 2147483647), ((-2147483648), 2147483647), ((-2147483648), 2147483647), ((-2147483648), 2147483647), ((-2147483648), 2147483647), ((-2147483648), 2147483647), ((-2147483648), 2147483647), ((-2147483648), 2147483647), ((-2147483648), 2147483647), ((-2147483648), 2147483647), ((-2147483648), 2147483647)], [])
def hp_553 : eH := [.inr (0, 14, eTop, [(0, (eTa 4097)), (1, (eTa 12289)), (2, (eTa 20481)), (3, (eTa 28673)), (4, (eTa 36865)), (5, (eTa 45057)), (6, (eTa 53249)), (7, (eTa 61441)), (8, (eTa 69633)), (9, (eTa 77825)), (10, (eTa 86017)), (11, (eTa 94209)), (12, (eTa 102401)), (13, (eTa 110593))])]
def th_553 : List (Option eP) := [(eP2 0 0), (eP2 0 1), (eP2 0 2), (eP2 0 3), (eP2 0 4), (eP2 0 5), (eP2 0 6), (eP2 0 7), (eP2 0 8), (eP2 0 9), (eP2 0 10), (eP2 0 11), (eP2 0 12), (eP2 0 13)]
def os_553 : List (eO × List (Option eP)) := [((0, none, (B_553.1, []), hS hp_553 [(0, .inr (0, 14, eTop, [(0, (eTa 61441)), (1, (eTa 69633)), (2, (eTa 77825)), (3, (eTa 86017)), (4, (eTa 94209)), (5, (eTa 102401)), (6, (eTa 110593)), (7, (eTa 61441)), (8, (eTa 69633)), (9, (eTa 77825)), (10, (eTa 86017)), (11, (eTa 94209)), (12, (eTa 102401)), (13, (eTa 110593))]))]), nTh 14 [])]
def cd_553 (φ : List Nat) : eCd := (as_553, B_553, hp_553, th_553, os_553.map (fun w => w.1), φ)
def us_553 : eUs := []
def sp_553 : List (Nat × Nat) := []
def ic_553 (pc : Nat) : Bool := false
def c_553_0 : eCut := ((0, eArgs 0 as_553, [], B_553, hp_553, 0, 0), [], [(900000, 0, 0)])
def K_553 : List eCut := []
set_option maxRecDepth 1000000 in
theorem k_553_0 : ckM 255 sp_553 us_553 ic_553 20000 14 1 os_553 (c_553_0 :: K_553) c_553_0 = true := by decide +kernel
/-! BalconyPortModel.takeHalf -/
def as_554 : List eV := [(eRf 0)]
def B_554 : eB := ([], [])
def hp_554 : eH := [.inr (0, 20, (eNm 0 0 3), [])]
def th_554 : List (Option eP) := []
def os_554 : List (eO × List (Option eP)) := [((0, none, (B_554.1, []), hp_554), nTh 0 [])]
def cd_554 (φ : List Nat) : eCd := (as_554, B_554, hp_554, th_554, os_554.map (fun w => w.1), φ)
def us_554 : eUs := []
def sp_554 : List (Nat × Nat) := []
def ic_554 (pc : Nat) : Bool := false
def c_554_0 : eCut := ((0, eArgs 0 as_554, [], B_554, hp_554, 0, 0), [], [(900000, 0, 0)])
def K_554 : List eCut := []
set_option maxRecDepth 1000000 in
theorem k_554_0 : ckM 255 sp_554 us_554 ic_554 20000 0 1 os_554 (c_554_0 :: K_554) c_554_0 = true := by decide +kernel
/-! BalconyPortModel.takeHalf -/
def as_555 : List eV := [(eRf 0)]
def B_555 : eB := ([], [])
def hp_555 : eH := [.inr (0, 20, (eNm 0 0 9), [])]
def th_555 : List (Option eP) := []
def os_555 : List (eO × List (Option eP)) := [((0, none, (B_555.1, []), hp_555), nTh 0 [])]
def cd_555 (φ : List Nat) : eCd := (as_555, B_555, hp_555, th_555, os_555.map (fun w => w.1), φ)
def us_555 : eUs := []
def sp_555 : List (Nat × Nat) := []
def ic_555 (pc : Nat) : Bool := false
def c_555_0 : eCut := ((0, eArgs 0 as_555, [], B_555, hp_555, 0, 0), [], [(900000, 0, 0)])
def K_555 : List eCut := []
set_option maxRecDepth 1000000 in
theorem k_555_0 : ckM 255 sp_555 us_555 ic_555 20000 0 1 os_555 (c_555_0 :: K_555) c_555_0 = true := by decide +kernel
/-! BalconyPortModel.takeHalf -/
def as_556 : List eV := [(eRf 0)]
def B_556 : eB := ([], [])
def hp_556 : eH := [.inr (0, 20, eTop, [])]
def th_556 : List (Option eP) := []
def os_556 : List (eO × List (Option eP)) := [((0, none, (B_556.1, []), hp_556), nTh 0 [])]
def cd_556 (φ : List Nat) : eCd := (as_556, B_556, hp_556, th_556, os_556.map (fun w => w.1), φ)
def us_556 : eUs := []
def sp_556 : List (Nat × Nat) := []
def ic_556 (pc : Nat) : Bool := false
def c_556_0 : eCut := ((0, eArgs 0 as_556, [], B_556, hp_556, 0, 0), [], [(900000, 0, 0)])
def K_556 : List eCut := []
set_option maxRecDepth 1000000 in
theorem k_556_0 : ckM 255 sp_556 us_556 ic_556 20000 0 1 os_556 (c_556_0 :: K_556) c_556_0 = true := by decide +kernel
/-! BalconyPortModel.feed -/
def as_562 : List eV := [(eRf 0), (eTa 176129), (eTa 184321), (eTa 192513), (eTa 200705), (eTa 208897)]
def B_562 : eB := ([((-2147483648), 2147483647), (0, cmx), (0, 700), (0, 700), (0, 700), (0, 4), (0, 100000), (0, 700), (0, 700), (0, 5), ((-2147483648), 2147483647), ((-2147483648), 2147483647), (0, 999), ((-2147483648), 2147483647), (0, 40), (0, 8), (0, 100), ((-2147483648), 2147483647), (0, 1), (0, 40), (0, 8), ((-2147483648), 2147483647), ((-2147483648), 2147483647), ((-2147483648), 2147483647), ((-2147483648), 2147483647), ((-2147483648), 2147483647), (0, cmx), (0, cmx), (0, cmx), (0, cmx), (0, cmx)], [(1004, 12289, 1152921508901814272, 1152921508901814272, 20481), (206, 12289, 1152921508901814272, 176129, 217089), (206, 217089, 1152921508901814272, 184321, 225281), (206, 225281, 1152921508901814272, 192513, 233473), (206, 233473, 1152921508901814272, 200705, 241665), (206, 241665, 1152921508901814272, 208897, 249857)])
def hp_562 : eH := [.inl (10, [(5, 59, 0, 0), (eTa 4097), (eRf 1), (eRf 2), (eRf 3), (eRf 4), (eRf 5), (eRf 6), (eRf 7), (eRf 8), (eRf 9), (eRf 10), (eRf 11), (eNm 20481 0 700), (eNm 28673 0 700), (eNm 36865 0 700), (eNm 45057 0 4), (eNm 53249 0 100000), (eNm 61441 0 700), (eNm 69633 0 700), (eNm 77825 0 5), (eTa 86017), (eTa 94209), (eRf 12), (eRf 13), (eRf 14), (eRf 15), (eRf 16), (eRf 17), (eRf 18), (eRf 19), (eNm 102401 0 999), (eTa 110593), (eNm 118785 0 40), (eNm 126977 0 8), (eRf 20), (eRf 21), (eRf 22), (eRf 23), (eRf 24), (eRf 25), (eRf 26), (eRf 27), (eRf 28), (eRf 29), (eRf 30), (eNm 135169 0 100), (eTa 143361), (eNm 151553 0 1), (eNm 159745 0 40), (eNm 167937 0 8), (eRf 31), (eRf 32), (eRf 33), (eRf 34), (eRf 35)]), fr9 1, fr9 2, fr9 3, fr9 4, fr9 5, fr9 6, fr9 7, fr9 8, fr9 9, fr9 10, .inr (9, 700, (eI 0), [(0, (eNm 12289 0 cmx))]), fr9 12, fr9 13, fr9 14, fr9 15, fr9 16, fr9 17, fr9 18, fr9 19, fr9 20, fr9 21, fr9 22, fr9 23, fr9 24, fr9 25, fr9 26, fr9 27, fr9 28, fr9 29, fr9 30, fr9 31, fr9 32, fr9 33, fr9 34, fr9 35]
def th_562 : List (Option eP) := [(eP1 0 1), some (3, 0, 0), (eP1 0 13), (eP1 0 14), (eP1 0 15), (eP1 0 16), (eP1 0 17), (eP1 0 18), (eP1 0 19), (eP1 0 20), (eP1 0 21), (eP1 0 22), (eP1 0 31), (eP1 0 32), (eP1 0 33), (eP1 0 34), (eP1 0 46), (eP1 0 47), (eP1 0 48), (eP1 0 49), (eP1 0 50), some (0, 1, 0), some (0, 2, 0), some (0, 3, 0), some (0, 4, 0), some (0, 5, 0), some (3, 0, 0), some (3, 0, 0), some (3, 0, 0), some (3, 0, 0), some (3, 0, 0)]
def os_562 : List (eO × List (Option eP)) := [((0, some (eI (-1)), (bS B_562.1 [(2, 681, 700)], []), hS hp_562 [(0, oS hp_562 0 [(1, (eI 0)), (13, (eNm 20481 681 700))])]), nTh 31 []), ((0, some (eNm 20501 20 700), (bS B_562.1 [(2, 0, 680)], [(1004, 249857, 1152921508901814272, 1152921508901814272, 20501)]), hS hp_562 [(0, oS hp_562 0 [(1, (eI 0)), (13, (eNm 20501 20 700))]), (11, .inr (9, 700, (eI 0), [(0, (eNm 249857 0 cmx))]))]), nTh 31 [])]
def cd_562 (φ : List Nat) : eCd := (as_562, B_562, hp_562, th_562, os_562.map (fun w => w.1), φ)
def gd_562 (th : List (Option eP)) (φ : List Nat) : eCd := (as_562, B_562, hp_562, th, os_562.map (fun w => w.1), φ)
def us_562 : eUs := []
def sp_562 : List (Nat × Nat) := [(98, 999999), (102, 999999)]
def ic_562 (pc : Nat) : Bool := false
def c_562_0 : eCut := ((0, eArgs 0 as_562, [], B_562, hp_562, 0, 0), [], [(900000, 0, 0)])
def K_562 : List eCut := []
set_option maxRecDepth 1000000 in
theorem k_562_0 : ckM 190 sp_562 us_562 ic_562 20000 31 36 os_562 (c_562_0 :: K_562) c_562_0 = true := by decide +kernel
