/-! ===== CONTRACTS, 31.m041 ===== -/
set_option maxRecDepth 1000000 in
theorem k_553_0 : ckM 255 sp_553 us_553 ic_553 20000 0 1 os_553 (c_553_0 :: K_553) c_553_0 = true := by decide +kernel
set_option maxRecDepth 100000 in
theorem ok_553 {l : Launch} (htr : l.stackTraces = false) {sb : eSB} (hvs : sb.1 60 = 1) {D : va_G} {cA : Nat → ClassId} : ctH l sb D cA 255 6 as_553 B_553 hp_553 (os_553.map (fun w => w.1)) := ctH_of htr hvs (M := 255) (by decide) (lev := 5) (by decide) (L := us_553) (by decide +kernel) (fun _ h => absurd h List.not_mem_nil) (n := 20000) (sp := sp_553) (isC := ic_553) (c0 := c_553_0) (K := K_553) (by decide +kernel) rfl (List.forall_mem_cons.mpr ⟨k_553_0, (fun _ h => absurd h List.not_mem_nil)⟩)
/-! BalconyPortModel.takeHalf -/
def as_554 : List eV := [(2, 0, 0, 0)]
def B_554 : eB := ([], [])
def hp_554 : eH := [.inr (0, 20, (0, 0, 0, 9), [])]
def th_554 : List (Option eP) := []
def os_554 : List (eO × List (Option eP)) := [((0, none, (B_554.1, []), hp_554), nTh 0 [])]
def cd_554 (φ : List Nat) : eCd := (as_554, B_554, hp_554, th_554, os_554.map (fun w => w.1), φ)
def us_554 : eUs := []
def sp_554 : List (Nat × Nat) := []
def ic_554 (pc : Nat) : Bool := false
def c_554_0 : eCut := ((0, eArgs 0 as_554, [], B_554, hp_554, 0, 0), [], [(900000, 0, 0)])
def K_554 : List eCut := []
set_option maxRecDepth 1000000 in
theorem k_554_0 : ckM 255 sp_554 us_554 ic_554 20000 0 1 os_554 (c_554_0 :: K_554) c_554_0 = true := by decide +kernel
set_option maxRecDepth 100000 in
theorem ok_554 {l : Launch} (htr : l.stackTraces = false) {sb : eSB} (hvs : sb.1 60 = 1) {D : va_G} {cA : Nat → ClassId} : ctH l sb D cA 255 6 as_554 B_554 hp_554 (os_554.map (fun w => w.1)) := ctH_of htr hvs (M := 255) (by decide) (lev := 5) (by decide) (L := us_554) (by decide +kernel) (fun _ h => absurd h List.not_mem_nil) (n := 20000) (sp := sp_554) (isC := ic_554) (c0 := c_554_0) (K := K_554) (by decide +kernel) rfl (List.forall_mem_cons.mpr ⟨k_554_0, (fun _ h => absurd h List.not_mem_nil)⟩)
/-! BalconyPortModel.takeHalf -/
def as_555 : List eV := [(2, 0, 0, 0)]
def B_555 : eB := ([], [])
def hp_555 : eH := [.inr (0, 20, eTop, [])]
def th_555 : List (Option eP) := []
def os_555 : List (eO × List (Option eP)) := [((0, none, (B_555.1, []), hp_555), nTh 0 [])]
def cd_555 (φ : List Nat) : eCd := (as_555, B_555, hp_555, th_555, os_555.map (fun w => w.1), φ)
def us_555 : eUs := []
def sp_555 : List (Nat × Nat) := []
def ic_555 (pc : Nat) : Bool := false
def c_555_0 : eCut := ((0, eArgs 0 as_555, [], B_555, hp_555, 0, 0), [], [(900000, 0, 0)])
def K_555 : List eCut := []
set_option maxRecDepth 1000000 in
theorem k_555_0 : ckM 255 sp_555 us_555 ic_555 20000 0 1 os_555 (c_555_0 :: K_555) c_555_0 = true := by decide +kernel
set_option maxRecDepth 100000 in
theorem ok_555 {l : Launch} (htr : l.stackTraces = false) {sb : eSB} (hvs : sb.1 60 = 1) {D : va_G} {cA : Nat → ClassId} : ctH l sb D cA 255 6 as_555 B_555 hp_555 (os_555.map (fun w => w.1)) := ctH_of htr hvs (M := 255) (by decide) (lev := 5) (by decide) (L := us_555) (by decide +kernel) (fun _ h => absurd h List.not_mem_nil) (n := 20000) (sp := sp_555) (isC := ic_555) (c0 := c_555_0) (K := K_555) (by decide +kernel) rfl (List.forall_mem_cons.mpr ⟨k_555_0, (fun _ h => absurd h List.not_mem_nil)⟩)
/-! BalconyPortModel.feed -/
def as_561 : List eV := [(2, 0, 0, 0), (0, 176129, (-2147483648), 2147483647), (0, 184321, (-2147483648), 2147483647), (0, 192513, (-2147483648), 2147483647), (0, 200705, (-2147483648), 2147483647), (0, 208897, (-2147483648), 2147483647)]
def B_561 : eB := ([((-2147483648), 2147483647), (0, cmx), (0, 700), (0, 700), (0, 700), (0, 4), (0, 100000), (0, 700), (0, 700), (0, 5), ((-2147483648), 2147483647), ((-2147483648), 2147483647), (0, 999), ((-2147483648), 2147483647), (0, 40), (0, 8), (0, 100), ((-2147483648), 2147483647), (0, 1), (0, 40), (0, 8), ((-2147483648), 2147483647), ((-2147483648), 2147483647), ((-2147483648), 2147483647), ((-2147483648), 2147483647), ((-2147483648), 2147483647), (0, cmx), (0, cmx), (0, cmx), (0, cmx), (0, cmx)], [(1004, 12289, 1152921508901814272, 1152921508901814272, 20481), (206, 12289, 1152921508901814272, 176129, 217089), (206, 217089, 1152921508901814272, 184321, 225281), (206, 225281, 1152921508901814272, 192513, 233473), (206, 233473, 1152921508901814272, 200705, 241665), (206, 241665, 1152921508901814272, 208897, 249857)])
def hp_561 : eH := [.inl (10, [(5, 59, 0, 0), (0, 4097, (-2147483648), 2147483647), (2, 1, 0, 0), (2, 2, 0, 0), (2, 3, 0, 0), (2, 4, 0, 0), (2, 5, 0, 0), (2, 6, 0, 0), (2, 7, 0, 0), (2, 8, 0, 0), (2, 9, 0, 0), (2, 10, 0, 0), (2, 11, 0, 0), (0, 20481, 0, 700), (0, 28673, 0, 700), (0, 36865, 0, 700), (0, 45057, 0, 4), (0, 53249, 0, 100000), (0, 61441, 0, 700), (0, 69633, 0, 700), (0, 77825, 0, 5), (0, 86017, (-2147483648), 2147483647), (0, 94209, (-2147483648), 2147483647), (2, 12, 0, 0), (2, 13, 0, 0), (2, 14, 0, 0), (2, 15, 0, 0), (2, 16, 0, 0), (2, 17, 0, 0), (2, 18, 0, 0), (2, 19, 0, 0), (0, 102401, 0, 999), (0, 110593, (-2147483648), 2147483647), (0, 118785, 0, 40), (0, 126977, 0, 8), (2, 20, 0, 0), (2, 21, 0, 0), (2, 22, 0, 0), (2, 23, 0, 0), (2, 24, 0, 0), (2, 25, 0, 0), (2, 26, 0, 0), (2, 27, 0, 0), (2, 28, 0, 0), (2, 29, 0, 0), (2, 30, 0, 0), (0, 135169, 0, 100), (0, 143361, (-2147483648), 2147483647), (0, 151553, 0, 1), (0, 159745, 0, 40), (0, 167937, 0, 8), (2, 31, 0, 0), (2, 32, 0, 0), (2, 33, 0, 0), (2, 34, 0, 0), (2, 35, 0, 0)]), fr9 1, fr9 2, fr9 3, fr9 4, fr9 5, fr9 6, fr9 7, fr9 8, fr9 9, fr9 10, .inr (9, 700, (eI 0), [(0, (0, 12289, 0, cmx))]), fr9 12, fr9 13, fr9 14, fr9 15, fr9 16, fr9 17, fr9 18, fr9 19, fr9 20, fr9 21, fr9 22, fr9 23, fr9 24, fr9 25, fr9 26, fr9 27, fr9 28, fr9 29, fr9 30, fr9 31, fr9 32, fr9 33, fr9 34, fr9 35]
def th_561 : List (Option eP) := [some (1, 0, 1), some (3, 0, 0), some (1, 0, 13), some (1, 0, 14), some (1, 0, 15), some (1, 0, 16), some (1, 0, 17), some (1, 0, 18), some (1, 0, 19), some (1, 0, 20), some (1, 0, 21), some (1, 0, 22), some (1, 0, 31), some (1, 0, 32), some (1, 0, 33), some (1, 0, 34), some (1, 0, 46), some (1, 0, 47), some (1, 0, 48), some (1, 0, 49), some (1, 0, 50), some (0, 1, 0), some (0, 2, 0), some (0, 3, 0), some (0, 4, 0), some (0, 5, 0), some (3, 0, 0), some (3, 0, 0), some (3, 0, 0), some (3, 0, 0), some (3, 0, 0)]
def os_561 : List (eO × List (Option eP)) := [((0, some (eI (-1)), (bS B_561.1 [(2, 681, 700)], []), hS hp_561 [(0, oS hp_561 0 [(1, (eI 0)), (13, (0, 20481, 681, 700))])]), nTh 31 []), ((0, some (0, 20501, 20, 700), (bS B_561.1 [(2, 0, 680)], [(1004, 249857, 1152921508901814272, 1152921508901814272, 20501)]), hS hp_561 [(0, oS hp_561 0 [(1, (eI 0)), (13, (0, 20501, 20, 700))]), (11, .inr (9, 700, (eI 0), [(0, (0, 249857, 0, cmx))]))]), nTh 31 [])]
def cd_561 (φ : List Nat) : eCd := (as_561, B_561, hp_561, th_561, os_561.map (fun w => w.1), φ)
def gd_561 (th : List (Option eP)) (φ : List Nat) : eCd := (as_561, B_561, hp_561, th, os_561.map (fun w => w.1), φ)
def us_561 : eUs := []
def sp_561 : List (Nat × Nat) := [(98, 999999), (102, 999999)]
def ic_561 (pc : Nat) : Bool := false
def c_561_0 : eCut := ((0, eArgs 0 as_561, [], B_561, hp_561, 0, 0), [], [(900000, 0, 0)])
def K_561 : List eCut := []
set_option maxRecDepth 1000000 in
theorem k_561_0 : ckM 190 sp_561 us_561 ic_561 20000 31 36 os_561 (c_561_0 :: K_561) c_561_0 = true := by decide +kernel
set_option maxRecDepth 100000 in
theorem ok_561 {l : Launch} (htr : l.stackTraces = false) {sb : eSB} (hvs : sb.1 60 = 1) {D : va_G} {cA : Nat → ClassId} : ctH l sb D cA 190 6 as_561 B_561 hp_561 (os_561.map (fun w => w.1)) := ctH_of htr hvs (M := 190) (by decide) (lev := 5) (by decide) (L := us_561) (by decide +kernel) (fun _ h => absurd h List.not_mem_nil) (n := 20000) (sp := sp_561) (isC := ic_561) (c0 := c_561_0) (K := K_561) (by decide +kernel) rfl (List.forall_mem_cons.mpr ⟨k_561_0, (fun _ h => absurd h List.not_mem_nil)⟩)
