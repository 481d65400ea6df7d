/-! ===== CONTRACTS: to try ===== -/
/-! BalconyPort$Reader.signAt -/
def as_0 : List eV := [(2, 0, 0, 0), (0, 86017, 0, 700)]
def B_0 : eB := ([(0, cmx), (0, 700), ((-1), 700), (0, 5), (0, 700), (0, 700), (0, 61), (0, 700), ((-1), 9999), (0, 1), (0, 700), (0, 255)], [(1004, 4097, 1152921508901814272, 1152921508901814272, 36865), (1003, 4097, 1152921508901814272, 86017, 94209), (34, 94209, 1152921508901814272, 1152921508901814272, 94209), (1, 10, 1, 4, 0)])
def hp_0 : eH := [.inl (4, [(2, 1, 0, 0), (2, 2, 0, 0), (0, 12289, 0, 700), (0, 20481, (-1), 700), (0, 28673, 0, 5), (0, 36865, 0, 700), (0, 45057, 0, 700), (0, 53249, 0, 61), (0, 61441, 0, 700), (0, 69633, (-1), 9999), (0, 77825, 0, 1)]), fr9 1, .inr (10, 700, (eI 0), [(0, (0, 4097, 0, cmx))])]
def th_0 : List (Option eP) := [some (3, 0, 0), some (1, 0, 2), some (1, 0, 3), some (1, 0, 4), some (1, 0, 5), some (1, 0, 6), some (1, 0, 7), some (1, 0, 8), some (1, 0, 9), some (1, 0, 10), some (0, 1, 0), some (3, 0, 0)]
def os_0 : List (eO × List (Option eP)) := [((0, some (0, 94209, 0, 255), (bS B_0.1 [(4, 1, 700), (10, 0, 699)], []), hS hp_0 [(0, oS hp_0 0 [(5, (0, 36865, 1, 700))])]), nTh 12 [])]
def cd_0 (φ : List Nat) : eCd := (as_0, B_0, hp_0, th_0, os_0.map (fun w => w.1), φ)
def gd_0 (th : List (Option eP)) (φ : List Nat) : eCd := (as_0, B_0, hp_0, th, os_0.map (fun w => w.1), φ)
def us_0 : eUs := []
def sp_0 : List (Nat × Nat) := [(17, 999999)]
def ic_0 (pc : Nat) : Bool := false
def c_0_0 : eCut := ((0, eArgs 0 as_0, [], B_0, hp_0, 0, 0), [], [(900000, 0, 0)])
def K_0 : List eCut := []
set_option maxRecDepth 1000000 in
theorem k_0_0 : ckM 49 sp_0 us_0 ic_0 20000 12 3 os_0 (c_0_0 :: K_0) c_0_0 = true := by decide +kernel
set_option maxRecDepth 100000 in
theorem ok_0 {l : Launch} (htr : l.stackTraces = false) {sb : eSB} (hvs : sb.1 60 = 1) {D : va_G} {cA : Nat → ClassId} : ctH l sb D cA 49 6 as_0 B_0 hp_0 (os_0.map (fun w => w.1)) := ctH_of htr hvs (M := 49) (by decide) (lev := 5) (by decide) (L := us_0) (by decide +kernel) (fun _ h => absurd h List.not_mem_nil) (n := 20000) (sp := sp_0) (isC := ic_0) (c0 := c_0_0) (K := K_0) (by decide +kernel) rfl (List.forall_mem_cons.mpr ⟨k_0_0, (fun _ h => absurd h List.not_mem_nil)⟩)
/-! BalconyPort$Reader.signAt -/
def as_1 : List eV := [(2, 0, 0, 0), (0, 86017, 0, 700)]
def B_1 : eB := ([(0, cmx), (0, 700), ((-1), 700), (0, 5), (0, 700), (0, 700), (0, 61), (0, 700), ((-1), 9999), (0, 1), (0, 700)], [(1004, 4097, 1152921508901814272, 1152921508901814272, 36865)])
def hp_1 : eH := [.inl (4, [(2, 1, 0, 0), (2, 2, 0, 0), (0, 12289, 0, 700), (0, 20481, (-1), 700), (0, 28673, 0, 5), (0, 36865, 0, 700), (0, 45057, 0, 700), (0, 53249, 0, 61), (0, 61441, 0, 700), (0, 69633, (-1), 9999), (0, 77825, 0, 1)]), fr9 1, .inr (10, 700, (eI 0), [(0, (0, 4097, 0, cmx))])]
def th_1 : List (Option eP) := [some (3, 0, 0), some (1, 0, 2), some (1, 0, 3), some (1, 0, 4), some (1, 0, 5), some (1, 0, 6), some (1, 0, 7), some (1, 0, 8), some (1, 0, 9), some (1, 0, 10), some (0, 1, 0)]
def os_1 : List (eO × List (Option eP)) := [((0, some (eI 0), (B_1.1, [(34, 1152921508901814272, 1152921508901814272, 1152921508901814272, 1152921508901814272), (1, 4, 0, 10, 0)]), hp_1), nTh 11 []), ((0, some (0, 94209, 0, 255), (bS B_1.1 [(4, 1, 700), (10, 0, 699)] ++ [(0, 255)], [(1003, 4097, 1152921508901814272, 86017, 94209), (34, 94209, 1152921508901814272, 1152921508901814272, 94209), (1, 10, 1, 4, 0)]), hS hp_1 [(0, oS hp_1 0 [(5, (0, 36865, 1, 700))])]), nTh 11 [(0, 0, 0)])]
def cd_1 (φ : List Nat) : eCd := (as_1, B_1, hp_1, th_1, os_1.map (fun w => w.1), φ)
def gd_1 (th : List (Option eP)) (φ : List Nat) : eCd := (as_1, B_1, hp_1, th, os_1.map (fun w => w.1), φ)
def us_1 : eUs := []
def sp_1 : List (Nat × Nat) := [(17, 999999)]
def ic_1 (pc : Nat) : Bool := false
def c_1_0 : eCut := ((0, eArgs 0 as_1, [], B_1, hp_1, 0, 0), [], [(900000, 0, 0)])
def K_1 : List eCut := []
set_option maxRecDepth 1000000 in
theorem k_1_0 : ckM 49 sp_1 us_1 ic_1 20000 11 3 os_1 (c_1_0 :: K_1) c_1_0 = true := by decide +kernel
set_option maxRecDepth 100000 in
theorem ok_1 {l : Launch} (htr : l.stackTraces = false) {sb : eSB} (hvs : sb.1 60 = 1) {D : va_G} {cA : Nat → ClassId} : ctH l sb D cA 49 6 as_1 B_1 hp_1 (os_1.map (fun w => w.1)) := ctH_of htr hvs (M := 49) (by decide) (lev := 5) (by decide) (L := us_1) (by decide +kernel) (fun _ h => absurd h List.not_mem_nil) (n := 20000) (sp := sp_1) (isC := ic_1) (c0 := c_1_0) (K := K_1) (by decide +kernel) rfl (List.forall_mem_cons.mpr ⟨k_1_0, (fun _ h => absurd h List.not_mem_nil)⟩)
