/-! ===== CONTRACTS, 32.c007 ===== -/
set_option maxRecDepth 1000000 in
theorem k_121_0 : ckM 33 sp_121 us_121 ic_121 20000 9 3 os_121 (c_121_0 :: K_121) c_121_0 = true := by decide +kernel
set_option maxRecDepth 1000000 in
theorem k_121_1 : ckM 33 sp_121 us_121 ic_121 20000 9 3 os_121 (c_121_0 :: K_121) c_121_1 = true := by decide +kernel
set_option maxRecDepth 1000000 in
theorem k_121_2 : ckM 33 sp_121 us_121 ic_121 20000 9 3 os_121 (c_121_0 :: K_121) c_121_2 = true := by decide +kernel
set_option maxRecDepth 100000 in
theorem ok_121 {l : Launch} (htr : l.stackTraces = false) {sb : eSB} (hvs : sb.1 60 = 1) {D : va_G} {cA : Nat → ClassId} : ctH l sb D cA 33 7 as_121 B_121 hp_121 (os_121.map (fun w => w.1)) := ctH_of htr hvs (M := 33) (by decide) (lev := 6) (by decide) (L := us_121) (by decide +kernel) (List.forall_mem_cons.mpr ⟨(List.forall_mem_cons.mpr ⟨(fun FR => ctH_mono (by decide) (ok_120 htr (sb := (sb.1, FR)) hvs)), (fun _ h => absurd h List.not_mem_nil)⟩), (fun _ h => absurd h List.not_mem_nil)⟩) (n := 20000) (sp := sp_121) (isC := ic_121) (c0 := c_121_0) (K := K_121) (by decide +kernel) rfl (List.forall_mem_cons.mpr ⟨k_121_0, (List.forall_mem_cons.mpr ⟨k_121_1, (List.forall_mem_cons.mpr ⟨k_121_2, (fun _ h => absurd h List.not_mem_nil)⟩)⟩)⟩)
/-! BalconyPort$Reader.isWord -/
def as_122 : List eV := [(2, 0, 0, 0), (5, 3, 0, 0)]
def B_122 : eB := ([(0, 700), ((-1), 700), (0, 5), (0, 700), (0, 700), (0, 255), (0, 700), ((-2147483648), 2147483647), (0, 1)], [])
def hp_122 : eH := [.inl (4, [(2, 1, 0, 0), (2, 2, 0, 0), (0, 4097, 0, 700), (0, 12289, (-1), 700), (0, 20481, 0, 5), (0, 28673, 0, 700), (0, 36865, 0, 700), (0, 45057, 0, 255), (0, 53249, 0, 700), (0, 61441, (-2147483648), 2147483647), (0, 69633, 0, 1)]), fr9 1, .inr (2, 700, (0, 0, (-128), 127), [])]
def th_122 : List (Option eP) := [some (1, 0, 2), some (1, 0, 3), some (1, 0, 4), some (1, 0, 5), some (1, 0, 6), some (1, 0, 7), some (1, 0, 8), some (1, 0, 9), some (1, 0, 10)]
def os_122 : List (eO × List (Option eP)) := [((0, some (0, 77825, 0, 1), (B_122.1 ++ [(0, 1)], []), hp_122), nTh 9 [(0, 0, 0)])]
def cd_122 (φ : List Nat) : eCd := (as_122, B_122, hp_122, th_122, os_122.map (fun w => w.1), φ)
def us_122 : eUs := []
def sp_122 : List (Nat × Nat) := []
def ic_122 (pc : Nat) : Bool := false
def c_122_0 : eCut := ((0, eArgs 0 as_122, [], B_122, hp_122, 0, 0), [], [(900000, 0, 0)])
def K_122 : List eCut := []
set_option maxRecDepth 1000000 in
theorem k_122_0 : ckM 32 sp_122 us_122 ic_122 20000 9 3 os_122 (c_122_0 :: K_122) c_122_0 = true := by decide +kernel
set_option maxRecDepth 100000 in
theorem ok_122 {l : Launch} (htr : l.stackTraces = false) {sb : eSB} (hvs : sb.1 60 = 1) {D : va_G} {cA : Nat → ClassId} : ctH l sb D cA 32 6 as_122 B_122 hp_122 (os_122.map (fun w => w.1)) := ctH_of htr hvs (M := 32) (by decide) (lev := 5) (by decide) (L := us_122) (by decide +kernel) (fun _ h => absurd h List.not_mem_nil) (n := 20000) (sp := sp_122) (isC := ic_122) (c0 := c_122_0) (K := K_122) (by decide +kernel) rfl (List.forall_mem_cons.mpr ⟨k_122_0, (fun _ h => absurd h List.not_mem_nil)⟩)
/-! BalconyPort$Reader.isWord -/
def as_123 : List eV := [(2, 0, 0, 0), (5, 5, 0, 0)]
def B_123 : eB := ([(0, 700), ((-1), 700), (0, 5), (0, 700), (0, 700), (0, 255), (0, 700), ((-2147483648), 2147483647), (0, 1)], [])
def hp_123 : eH := [.inl (4, [(2, 1, 0, 0), (2, 2, 0, 0), (0, 4097, 0, 700), (0, 12289, (-1), 700), (0, 20481, 0, 5), (0, 28673, 0, 700), (0, 36865, 0, 700), (0, 45057, 0, 255), (0, 53249, 0, 700), (0, 61441, (-2147483648), 2147483647), (0, 69633, 0, 1)]), fr9 1, .inr (2, 700, (0, 0, (-128), 127), [])]
def th_123 : List (Option eP) := [some (1, 0, 2), some (1, 0, 3), some (1, 0, 4), some (1, 0, 5), some (1, 0, 6), some (1, 0, 7), some (1, 0, 8), some (1, 0, 9), some (1, 0, 10)]
def os_123 : List (eO × List (Option eP)) := [((0, some (0, 77825, 0, 1), (B_123.1 ++ [(0, 1)], []), hp_123), nTh 9 [(0, 0, 0)])]
def cd_123 (φ : List Nat) : eCd := (as_123, B_123, hp_123, th_123, os_123.map (fun w => w.1), φ)
def us_123 : eUs := []
def sp_123 : List (Nat × Nat) := []
def ic_123 (pc : Nat) : Bool := false
def c_123_0 : eCut := ((0, eArgs 0 as_123, [], B_123, hp_123, 0, 0), [], [(900000, 0, 0)])
def K_123 : List eCut := []
set_option maxRecDepth 1000000 in
theorem k_123_0 : ckM 32 sp_123 us_123 ic_123 20000 9 3 os_123 (c_123_0 :: K_123) c_123_0 = true := by decide +kernel
set_option maxRecDepth 100000 in
theorem ok_123 {l : Launch} (htr : l.stackTraces = false) {sb : eSB} (hvs : sb.1 60 = 1) {D : va_G} {cA : Nat → ClassId} : ctH l sb D cA 32 6 as_123 B_123 hp_123 (os_123.map (fun w => w.1)) := ctH_of htr hvs (M := 32) (by decide) (lev := 5) (by decide) (L := us_123) (by decide +kernel) (fun _ h => absurd h List.not_mem_nil) (n := 20000) (sp := sp_123) (isC := ic_123) (c0 := c_123_0) (K := K_123) (by decide +kernel) rfl (List.forall_mem_cons.mpr ⟨k_123_0, (fun _ h => absurd h List.not_mem_nil)⟩)
/-! BalconyPort$Reader.isWord -/
def as_124 : List eV := [(2, 0, 0, 0), (5, 7, 0, 0)]
def B_124 : eB := ([(0, 700), ((-1), 700), (0, 5), (0, 700), (0, 700), (0, 255), (0, 700), ((-2147483648), 2147483647), (0, 1)], [])
def hp_124 : eH := [.inl (4, [(2, 1, 0, 0), (2, 2, 0, 0), (0, 4097, 0, 700), (0, 12289, (-1), 700), (0, 20481, 0, 5), (0, 28673, 0, 700), (0, 36865, 0, 700), (0, 45057, 0, 255), (0, 53249, 0, 700), (0, 61441, (-2147483648), 2147483647), (0, 69633, 0, 1)]), fr9 1, .inr (2, 700, (0, 0, (-128), 127), [])]
def th_124 : List (Option eP) := [some (1, 0, 2), some (1, 0, 3), some (1, 0, 4), some (1, 0, 5), some (1, 0, 6), some (1, 0, 7), some (1, 0, 8), some (1, 0, 9), some (1, 0, 10)]
def os_124 : List (eO × List (Option eP)) := [((0, some (0, 77825, 0, 1), (B_124.1 ++ [(0, 1)], []), hp_124), nTh 9 [(0, 0, 0)])]
def cd_124 (φ : List Nat) : eCd := (as_124, B_124, hp_124, th_124, os_124.map (fun w => w.1), φ)
def us_124 : eUs := []
def sp_124 : List (Nat × Nat) := []
def ic_124 (pc : Nat) : Bool := false
def c_124_0 : eCut := ((0, eArgs 0 as_124, [], B_124, hp_124, 0, 0), [], [(900000, 0, 0)])
def K_124 : List eCut := []
set_option maxRecDepth 1000000 in
theorem k_124_0 : ckM 32 sp_124 us_124 ic_124 20000 9 3 os_124 (c_124_0 :: K_124) c_124_0 = true := by decide +kernel
set_option maxRecDepth 100000 in
theorem ok_124 {l : Launch} (htr : l.stackTraces = false) {sb : eSB} (hvs : sb.1 60 = 1) {D : va_G} {cA : Nat → ClassId} : ctH l sb D cA 32 6 as_124 B_124 hp_124 (os_124.map (fun w => w.1)) := ctH_of htr hvs (M := 32) (by decide) (lev := 5) (by decide) (L := us_124) (by decide +kernel) (fun _ h => absurd h List.not_mem_nil) (n := 20000) (sp := sp_124) (isC := ic_124) (c0 := c_124_0) (K := K_124) (by decide +kernel) rfl (List.forall_mem_cons.mpr ⟨k_124_0, (fun _ h => absurd h List.not_mem_nil)⟩)
/-! BalconyPort$Reader.isWord -/
def as_125 : List eV := [(2, 0, 0, 0), (5, 9, 0, 0)]
def B_125 : eB := ([(0, 700), ((-1), 700), (0, 5), (0, 700), (0, 700), (0, 255), (0, 700), ((-2147483648), 2147483647), (0, 1)], [])
def hp_125 : eH := [.inl (4, [(2, 1, 0, 0), (2, 2, 0, 0), (0, 4097, 0, 700), (0, 12289, (-1), 700), (0, 20481, 0, 5), (0, 28673, 0, 700), (0, 36865, 0, 700), (0, 45057, 0, 255), (0, 53249, 0, 700), (0, 61441, (-2147483648), 2147483647), (0, 69633, 0, 1)]), fr9 1, .inr (2, 700, (0, 0, (-128), 127), [])]
def th_125 : List (Option eP) := [some (1, 0, 2), some (1, 0, 3), some (1, 0, 4), some (1, 0, 5), some (1, 0, 6), some (1, 0, 7), some (1, 0, 8), some (1, 0, 9), some (1, 0, 10)]
def os_125 : List (eO × List (Option eP)) := [((0, some (0, 77825, 0, 1), (B_125.1 ++ [(0, 1)], []), hp_125), nTh 9 [(0, 0, 0)])]
def cd_125 (φ : List Nat) : eCd := (as_125, B_125, hp_125, th_125, os_125.map (fun w => w.1), φ)
def us_125 : eUs := []
def sp_125 : List (Nat × Nat) := []
def ic_125 (pc : Nat) : Bool := false
def c_125_0 : eCut := ((0, eArgs 0 as_125, [], B_125, hp_125, 0, 0), [], [(900000, 0, 0)])
def K_125 : List eCut := []
set_option maxRecDepth 1000000 in
theorem k_125_0 : ckM 32 sp_125 us_125 ic_125 20000 9 3 os_125 (c_125_0 :: K_125) c_125_0 = true := by decide +kernel
set_option maxRecDepth 100000 in
theorem ok_125 {l : Launch} (htr : l.stackTraces = false) {sb : eSB} (hvs : sb.1 60 = 1) {D : va_G} {cA : Nat → ClassId} : ctH l sb D cA 32 6 as_125 B_125 hp_125 (os_125.map (fun w => w.1)) := ctH_of htr hvs (M := 32) (by decide) (lev := 5) (by decide) (L := us_125) (by decide +kernel) (fun _ h => absurd h List.not_mem_nil) (n := 20000) (sp := sp_125) (isC := ic_125) (c0 := c_125_0) (K := K_125) (by decide +kernel) rfl (List.forall_mem_cons.mpr ⟨k_125_0, (fun _ h => absurd h List.not_mem_nil)⟩)
/-! BalconyPort$Reader.isWord -/
def as_126 : List eV := [(2, 0, 0, 0), (5, 11, 0, 0)]
def B_126 : eB := ([(0, 700), ((-1), 700), (0, 5), (0, 700), (0, 700), (0, 255), (0, 700), ((-2147483648), 2147483647), (0, 1)], [])
def hp_126 : eH := [.inl (4, [(2, 1, 0, 0), (2, 2, 0, 0), (0, 4097, 0, 700), (0, 12289, (-1), 700), (0, 20481, 0, 5), (0, 28673, 0, 700), (0, 36865, 0, 700), (0, 45057, 0, 255), (0, 53249, 0, 700), (0, 61441, (-2147483648), 2147483647), (0, 69633, 0, 1)]), fr9 1, .inr (2, 700, (0, 0, (-128), 127), [])]
def th_126 : List (Option eP) := [some (1, 0, 2), some (1, 0, 3), some (1, 0, 4), some (1, 0, 5), some (1, 0, 6), some (1, 0, 7), some (1, 0, 8), some (1, 0, 9), some (1, 0, 10)]
def os_126 : List (eO × List (Option eP)) := [((0, some (0, 77825, 0, 1), (B_126.1 ++ [(0, 1)], []), hp_126), nTh 9 [(0, 0, 0)])]
def cd_126 (φ : List Nat) : eCd := (as_126, B_126, hp_126, th_126, os_126.map (fun w => w.1), φ)
def us_126 : eUs := []
def sp_126 : List (Nat × Nat) := []
def ic_126 (pc : Nat) : Bool := false
def c_126_0 : eCut := ((0, eArgs 0 as_126, [], B_126, hp_126, 0, 0), [], [(900000, 0, 0)])
def K_126 : List eCut := []
set_option maxRecDepth 1000000 in
theorem k_126_0 : ckM 32 sp_126 us_126 ic_126 20000 9 3 os_126 (c_126_0 :: K_126) c_126_0 = true := by decide +kernel
set_option maxRecDepth 100000 in
theorem ok_126 {l : Launch} (htr : l.stackTraces = false) {sb : eSB} (hvs : sb.1 60 = 1) {D : va_G} {cA : Nat → ClassId} : ctH l sb D cA 32 6 as_126 B_126 hp_126 (os_126.map (fun w => w.1)) := ctH_of htr hvs (M := 32) (by decide) (lev := 5) (by decide) (L := us_126) (by decide +kernel) (fun _ h => absurd h List.not_mem_nil) (n := 20000) (sp := sp_126) (isC := ic_126) (c0 := c_126_0) (K := K_126) (by decide +kernel) rfl (List.forall_mem_cons.mpr ⟨k_126_0, (fun _ h => absurd h List.not_mem_nil)⟩)
/-! BalconyPort$Reader.isWord -/
def as_127 : List eV := [(2, 0, 0, 0), (5, 13, 0, 0)]
def B_127 : eB := ([(0, 700), ((-1), 700), (0, 5), (0, 700), (0, 700), (0, 255), (0, 700), ((-2147483648), 2147483647), (0, 1)], [])
def hp_127 : eH := [.inl (4, [(2, 1, 0, 0), (2, 2, 0, 0), (0, 4097, 0, 700), (0, 12289, (-1), 700), (0, 20481, 0, 5), (0, 28673, 0, 700), (0, 36865, 0, 700), (0, 45057, 0, 255), (0, 53249, 0, 700), (0, 61441, (-2147483648), 2147483647), (0, 69633, 0, 1)]), fr9 1, .inr (2, 700, (0, 0, (-128), 127), [])]
def th_127 : List (Option eP) := [some (1, 0, 2), some (1, 0, 3), some (1, 0, 4), some (1, 0, 5), some (1, 0, 6), some (1, 0, 7), some (1, 0, 8), some (1, 0, 9), some (1, 0, 10)]
def os_127 : List (eO × List (Option eP)) := [((0, some (0, 77825, 0, 1), (B_127.1 ++ [(0, 1)], []), hp_127), nTh 9 [(0, 0, 0)])]
def cd_127 (φ : List Nat) : eCd := (as_127, B_127, hp_127, th_127, os_127.map (fun w => w.1), φ)
def us_127 : eUs := []
def sp_127 : List (Nat × Nat) := []
def ic_127 (pc : Nat) : Bool := false
def c_127_0 : eCut := ((0, eArgs 0 as_127, [], B_127, hp_127, 0, 0), [], [(900000, 0, 0)])
def K_127 : List eCut := []
set_option maxRecDepth 1000000 in
theorem k_127_0 : ckM 32 sp_127 us_127 ic_127 20000 9 3 os_127 (c_127_0 :: K_127) c_127_0 = true := by decide +kernel
set_option maxRecDepth 100000 in
theorem ok_127 {l : Launch} (htr : l.stackTraces = false) {sb : eSB} (hvs : sb.1 60 = 1) {D : va_G} {cA : Nat → ClassId} : ctH l sb D cA 32 6 as_127 B_127 hp_127 (os_127.map (fun w => w.1)) := ctH_of htr hvs (M := 32) (by decide) (lev := 5) (by decide) (L := us_127) (by decide +kernel) (fun _ h => absurd h List.not_mem_nil) (n := 20000) (sp := sp_127) (isC := ic_127) (c0 := c_127_0) (K := K_127) (by decide +kernel) rfl (List.forall_mem_cons.mpr ⟨k_127_0, (fun _ h => absurd h List.not_mem_nil)⟩)
/-! BalconyPort$Reader.isWord -/
def as_128 : List eV := [(2, 0, 0, 0), (5, 15, 0, 0)]
def B_128 : eB := ([(0, 700), ((-1), 700), (0, 5), (0, 700), (0, 700), (0, 255), (0, 700), ((-2147483648), 2147483647), (0, 1)], [])
def hp_128 : eH := [.inl (4, [(2, 1, 0, 0), (2, 2, 0, 0), (0, 4097, 0, 700), (0, 12289, (-1), 700), (0, 20481, 0, 5), (0, 28673, 0, 700), (0, 36865, 0, 700), (0, 45057, 0, 255), (0, 53249, 0, 700), (0, 61441, (-2147483648), 2147483647), (0, 69633, 0, 1)]), fr9 1, .inr (2, 700, (0, 0, (-128), 127), [])]
def th_128 : List (Option eP) := [some (1, 0, 2), some (1, 0, 3), some (1, 0, 4), some (1, 0, 5), some (1, 0, 6), some (1, 0, 7), some (1, 0, 8), some (1, 0, 9), some (1, 0, 10)]
def os_128 : List (eO × List (Option eP)) := [((0, some (0, 77825, 0, 1), (B_128.1 ++ [(0, 1)], []), hp_128), nTh 9 [(0, 0, 0)])]
def cd_128 (φ : List Nat) : eCd := (as_128, B_128, hp_128, th_128, os_128.map (fun w => w.1), φ)
def us_128 : eUs := []
def sp_128 : List (Nat × Nat) := []
def ic_128 (pc : Nat) : Bool := false
def c_128_0 : eCut := ((0, eArgs 0 as_128, [], B_128, hp_128, 0, 0), [], [(900000, 0, 0)])
def K_128 : List eCut := []
set_option maxRecDepth 1000000 in
theorem k_128_0 : ckM 32 sp_128 us_128 ic_128 20000 9 3 os_128 (c_128_0 :: K_128) c_128_0 = true := by decide +kernel
set_option maxRecDepth 100000 in
theorem ok_128 {l : Launch} (htr : l.stackTraces = false) {sb : eSB} (hvs : sb.1 60 = 1) {D : va_G} {cA : Nat → ClassId} : ctH l sb D cA 32 6 as_128 B_128 hp_128 (os_128.map (fun w => w.1)) := ctH_of htr hvs (M := 32) (by decide) (lev := 5) (by decide) (L := us_128) (by decide +kernel) (fun _ h => absurd h List.not_mem_nil) (n := 20000) (sp := sp_128) (isC := ic_128) (c0 := c_128_0) (K := K_128) (by decide +kernel) rfl (List.forall_mem_cons.mpr ⟨k_128_0, (fun _ h => absurd h List.not_mem_nil)⟩)
/-! BalconyPort$Reader.isWord -/
def as_129 : List eV := [(2, 0, 0, 0), (5, 17, 0, 0)]
def B_129 : eB := ([(0, 700), ((-1), 700), (0, 5), (0, 700), (0, 700), (0, 255), (0, 700), ((-2147483648), 2147483647), (0, 1)], [])
def hp_129 : eH := [.inl (4, [(2, 1, 0, 0), (2, 2, 0, 0), (0, 4097, 0, 700), (0, 12289, (-1), 700), (0, 20481, 0, 5), (0, 28673, 0, 700), (0, 36865, 0, 700), (0, 45057, 0, 255), (0, 53249, 0, 700), (0, 61441, (-2147483648), 2147483647), (0, 69633, 0, 1)]), fr9 1, .inr (2, 700, (0, 0, (-128), 127), [])]
def th_129 : List (Option eP) := [some (1, 0, 2), some (1, 0, 3), some (1, 0, 4), some (1, 0, 5), some (1, 0, 6), some (1, 0, 7), some (1, 0, 8), some (1, 0, 9), some (1, 0, 10)]
def os_129 : List (eO × List (Option eP)) := [((0, some (0, 77825, 0, 1), (B_129.1 ++ [(0, 1)], []), hp_129), nTh 9 [(0, 0, 0)])]
def cd_129 (φ : List Nat) : eCd := (as_129, B_129, hp_129, th_129, os_129.map (fun w => w.1), φ)
def us_129 : eUs := []
def sp_129 : List (Nat × Nat) := []
def ic_129 (pc : Nat) : Bool := false
def c_129_0 : eCut := ((0, eArgs 0 as_129, [], B_129, hp_129, 0, 0), [], [(900000, 0, 0)])
def K_129 : List eCut := []
set_option maxRecDepth 1000000 in
theorem k_129_0 : ckM 32 sp_129 us_129 ic_129 20000 9 3 os_129 (c_129_0 :: K_129) c_129_0 = true := by decide +kernel
set_option maxRecDepth 100000 in
theorem ok_129 {l : Launch} (htr : l.stackTraces = false) {sb : eSB} (hvs : sb.1 60 = 1) {D : va_G} {cA : Nat → ClassId} : ctH l sb D cA 32 6 as_129 B_129 hp_129 (os_129.map (fun w => w.1)) := ctH_of htr hvs (M := 32) (by decide) (lev := 5) (by decide) (L := us_129) (by decide +kernel) (fun _ h => absurd h List.not_mem_nil) (n := 20000) (sp := sp_129) (isC := ic_129) (c0 := c_129_0) (K := K_129) (by decide +kernel) rfl (List.forall_mem_cons.mpr ⟨k_129_0, (fun _ h => absurd h List.not_mem_nil)⟩)
/-! BalconyPort$Reader.isWord -/
def as_130 : List eV := [(2, 0, 0, 0), (5, 19, 0, 0)]
def B_130 : eB := ([(0, 700), ((-1), 700), (0, 5), (0, 700), (0, 700), (0, 255), (0, 700), ((-2147483648), 2147483647), (0, 1)], [])
def hp_130 : eH := [.inl (4, [(2, 1, 0, 0), (2, 2, 0, 0), (0, 4097, 0, 700), (0, 12289, (-1), 700), (0, 20481, 0, 5), (0, 28673, 0, 700), (0, 36865, 0, 700), (0, 45057, 0, 255), (0, 53249, 0, 700), (0, 61441, (-2147483648), 2147483647), (0, 69633, 0, 1)]), fr9 1, .inr (2, 700, (0, 0, (-128), 127), [])]
def th_130 : List (Option eP) := [some (1, 0, 2), some (1, 0, 3), some (1, 0, 4), some (1, 0, 5), some (1, 0, 6), some (1, 0, 7), some (1, 0, 8), some (1, 0, 9), some (1, 0, 10)]
def os_130 : List (eO × List (Option eP)) := [((0, some (0, 77825, 0, 1), (B_130.1 ++ [(0, 1)], []), hp_130), nTh 9 [(0, 0, 0)])]
def cd_130 (φ : List Nat) : eCd := (as_130, B_130, hp_130, th_130, os_130.map (fun w => w.1), φ)
def us_130 : eUs := []
def sp_130 : List (Nat × Nat) := []
def ic_130 (pc : Nat) : Bool := false
def c_130_0 : eCut := ((0, eArgs 0 as_130, [], B_130, hp_130, 0, 0), [], [(900000, 0, 0)])
def K_130 : List eCut := []
set_option maxRecDepth 1000000 in
theorem k_130_0 : ckM 32 sp_130 us_130 ic_130 20000 9 3 os_130 (c_130_0 :: K_130) c_130_0 = true := by decide +kernel
set_option maxRecDepth 100000 in
theorem ok_130 {l : Launch} (htr : l.stackTraces = false) {sb : eSB} (hvs : sb.1 60 = 1) {D : va_G} {cA : Nat → ClassId} : ctH l sb D cA 32 6 as_130 B_130 hp_130 (os_130.map (fun w => w.1)) := ctH_of htr hvs (M := 32) (by decide) (lev := 5) (by decide) (L := us_130) (by decide +kernel) (fun _ h => absurd h List.not_mem_nil) (n := 20000) (sp := sp_130) (isC := ic_130) (c0 := c_130_0) (K := K_130) (by decide +kernel) rfl (List.forall_mem_cons.mpr ⟨k_130_0, (fun _ h => absurd h List.not_mem_nil)⟩)
/-! BalconyPort$Reader.isWord -/
def as_131 : List eV := [(2, 0, 0, 0), (5, 21, 0, 0)]
def B_131 : eB := ([(0, 700), ((-1), 700), (0, 5), (0, 700), (0, 700), (0, 255), (0, 700), ((-2147483648), 2147483647), (0, 1)], [])
def hp_131 : eH := [.inl (4, [(2, 1, 0, 0), (2, 2, 0, 0), (0, 4097, 0, 700), (0, 12289, (-1), 700), (0, 20481, 0, 5), (0, 28673, 0, 700), (0, 36865, 0, 700), (0, 45057, 0, 255), (0, 53249, 0, 700), (0, 61441, (-2147483648), 2147483647), (0, 69633, 0, 1)]), fr9 1, .inr (2, 700, (0, 0, (-128), 127), [])]
def th_131 : List (Option eP) := [some (1, 0, 2), some (1, 0, 3), some (1, 0, 4), some (1, 0, 5), some (1, 0, 6), some (1, 0, 7), some (1, 0, 8), some (1, 0, 9), some (1, 0, 10)]
def os_131 : List (eO × List (Option eP)) := [((0, some (0, 77825, 0, 1), (B_131.1 ++ [(0, 1)], []), hp_131), nTh 9 [(0, 0, 0)])]
def cd_131 (φ : List Nat) : eCd := (as_131, B_131, hp_131, th_131, os_131.map (fun w => w.1), φ)
def us_131 : eUs := []
def sp_131 : List (Nat × Nat) := []
def ic_131 (pc : Nat) : Bool := false
def c_131_0 : eCut := ((0, eArgs 0 as_131, [], B_131, hp_131, 0, 0), [], [(900000, 0, 0)])
def K_131 : List eCut := []
set_option maxRecDepth 1000000 in
theorem k_131_0 : ckM 32 sp_131 us_131 ic_131 20000 9 3 os_131 (c_131_0 :: K_131) c_131_0 = true := by decide +kernel
set_option maxRecDepth 100000 in
theorem ok_131 {l : Launch} (htr : l.stackTraces = false) {sb : eSB} (hvs : sb.1 60 = 1) {D : va_G} {cA : Nat → ClassId} : ctH l sb D cA 32 6 as_131 B_131 hp_131 (os_131.map (fun w => w.1)) := ctH_of htr hvs (M := 32) (by decide) (lev := 5) (by decide) (L := us_131) (by decide +kernel) (fun _ h => absurd h List.not_mem_nil) (n := 20000) (sp := sp_131) (isC := ic_131) (c0 := c_131_0) (K := K_131) (by decide +kernel) rfl (List.forall_mem_cons.mpr ⟨k_131_0, (fun _ h => absurd h List.not_mem_nil)⟩)
/-! BalconyPort$Reader.isWord -/
def as_132 : List eV := [(2, 0, 0, 0), (5, 23, 0, 0)]
def B_132 : eB := ([(0, 700), ((-1), 700), (0, 5), (0, 700), (0, 700), (0, 255), (0, 700), ((-2147483648), 2147483647), (0, 1)], [])
def hp_132 : eH := [.inl (4, [(2, 1, 0, 0), (2, 2, 0, 0), (0, 4097, 0, 700), (0, 12289, (-1), 700), (0, 20481, 0, 5), (0, 28673, 0, 700), (0, 36865, 0, 700), (0, 45057, 0, 255), (0, 53249, 0, 700), (0, 61441, (-2147483648), 2147483647), (0, 69633, 0, 1)]), fr9 1, .inr (2, 700, (0, 0, (-128), 127), [])]
def th_132 : List (Option eP) := [some (1, 0, 2), some (1, 0, 3), some (1, 0, 4), some (1, 0, 5), some (1, 0, 6), some (1, 0, 7), some (1, 0, 8), some (1, 0, 9), some (1, 0, 10)]
def os_132 : List (eO × List (Option eP)) := [((0, some (0, 77825, 0, 1), (B_132.1 ++ [(0, 1)], []), hp_132), nTh 9 [(0, 0, 0)])]
def cd_132 (φ : List Nat) : eCd := (as_132, B_132, hp_132, th_132, os_132.map (fun w => w.1), φ)
def us_132 : eUs := []
def sp_132 : List (Nat × Nat) := []
def ic_132 (pc : Nat) : Bool := false
def c_132_0 : eCut := ((0, eArgs 0 as_132, [], B_132, hp_132, 0, 0), [], [(900000, 0, 0)])
def K_132 : List eCut := []
set_option maxRecDepth 1000000 in
theorem k_132_0 : ckM 32 sp_132 us_132 ic_132 20000 9 3 os_132 (c_132_0 :: K_132) c_132_0 = true := by decide +kernel
set_option maxRecDepth 100000 in
theorem ok_132 {l : Launch} (htr : l.stackTraces = false) {sb : eSB} (hvs : sb.1 60 = 1) {D : va_G} {cA : Nat → ClassId} : ctH l sb D cA 32 6 as_132 B_132 hp_132 (os_132.map (fun w => w.1)) := ctH_of htr hvs (M := 32) (by decide) (lev := 5) (by decide) (L := us_132) (by decide +kernel) (fun _ h => absurd h List.not_mem_nil) (n := 20000) (sp := sp_132) (isC := ic_132) (c0 := c_132_0) (K := K_132) (by decide +kernel) rfl (List.forall_mem_cons.mpr ⟨k_132_0, (fun _ h => absurd h List.not_mem_nil)⟩)
/-! BalconyPort$Reader.isWord -/
def as_133 : List eV := [(2, 0, 0, 0), (5, 25, 0, 0)]
def B_133 : eB := ([(0, 700), ((-1), 700), (0, 5), (0, 700), (0, 700), (0, 255), (0, 700), ((-2147483648), 2147483647), (0, 1)], [])
def hp_133 : eH := [.inl (4, [(2, 1, 0, 0), (2, 2, 0, 0), (0, 4097, 0, 700), (0, 12289, (-1), 700), (0, 20481, 0, 5), (0, 28673, 0, 700), (0, 36865, 0, 700), (0, 45057, 0, 255), (0, 53249, 0, 700), (0, 61441, (-2147483648), 2147483647), (0, 69633, 0, 1)]), fr9 1, .inr (2, 700, (0, 0, (-128), 127), [])]
def th_133 : List (Option eP) := [some (1, 0, 2), some (1, 0, 3), some (1, 0, 4), some (1, 0, 5), some (1, 0, 6), some (1, 0, 7), some (1, 0, 8), some (1, 0, 9), some (1, 0, 10)]
def os_133 : List (eO × List (Option eP)) := [((0, some (0, 77825, 0, 1), (B_133.1 ++ [(0, 1)], []), hp_133), nTh 9 [(0, 0, 0)])]
def cd_133 (φ : List Nat) : eCd := (as_133, B_133, hp_133, th_133, os_133.map (fun w => w.1), φ)
def us_133 : eUs := []
def sp_133 : List (Nat × Nat) := []
def ic_133 (pc : Nat) : Bool := false
def c_133_0 : eCut := ((0, eArgs 0 as_133, [], B_133, hp_133, 0, 0), [], [(900000, 0, 0)])
def K_133 : List eCut := []
set_option maxRecDepth 1000000 in
theorem k_133_0 : ckM 32 sp_133 us_133 ic_133 20000 9 3 os_133 (c_133_0 :: K_133) c_133_0 = true := by decide +kernel
set_option maxRecDepth 100000 in
theorem ok_133 {l : Launch} (htr : l.stackTraces = false) {sb : eSB} (hvs : sb.1 60 = 1) {D : va_G} {cA : Nat → ClassId} : ctH l sb D cA 32 6 as_133 B_133 hp_133 (os_133.map (fun w => w.1)) := ctH_of htr hvs (M := 32) (by decide) (lev := 5) (by decide) (L := us_133) (by decide +kernel) (fun _ h => absurd h List.not_mem_nil) (n := 20000) (sp := sp_133) (isC := ic_133) (c0 := c_133_0) (K := K_133) (by decide +kernel) rfl (List.forall_mem_cons.mpr ⟨k_133_0, (fun _ h => absurd h List.not_mem_nil)⟩)
/-! BalconyPort$Reader.isWord -/
def as_134 : List eV := [(2, 0, 0, 0), (5, 27, 0, 0)]
def B_134 : eB := ([(0, 700), ((-1), 700), (0, 5), (0, 700), (0, 700), (0, 255), (0, 700), ((-2147483648), 2147483647), (0, 1)], [])
def hp_134 : eH := [.inl (4, [(2, 1, 0, 0), (2, 2, 0, 0), (0, 4097, 0, 700), (0, 12289, (-1), 700), (0, 20481, 0, 5), (0, 28673, 0, 700), (0, 36865, 0, 700), (0, 45057, 0, 255), (0, 53249, 0, 700), (0, 61441, (-2147483648), 2147483647), (0, 69633, 0, 1)]), fr9 1, .inr (2, 700, (0, 0, (-128), 127), [])]
def th_134 : List (Option eP) := [some (1, 0, 2), some (1, 0, 3), some (1, 0, 4), some (1, 0, 5), some (1, 0, 6), some (1, 0, 7), some (1, 0, 8), some (1, 0, 9), some (1, 0, 10)]
def os_134 : List (eO × List (Option eP)) := [((0, some (0, 77825, 0, 1), (B_134.1 ++ [(0, 1)], []), hp_134), nTh 9 [(0, 0, 0)])]
def cd_134 (φ : List Nat) : eCd := (as_134, B_134, hp_134, th_134, os_134.map (fun w => w.1), φ)
def us_134 : eUs := []
def sp_134 : List (Nat × Nat) := []
def ic_134 (pc : Nat) : Bool := false
def c_134_0 : eCut := ((0, eArgs 0 as_134, [], B_134, hp_134, 0, 0), [], [(900000, 0, 0)])
def K_134 : List eCut := []
set_option maxRecDepth 1000000 in
theorem k_134_0 : ckM 32 sp_134 us_134 ic_134 20000 9 3 os_134 (c_134_0 :: K_134) c_134_0 = true := by decide +kernel
set_option maxRecDepth 100000 in
theorem ok_134 {l : Launch} (htr : l.stackTraces = false) {sb : eSB} (hvs : sb.1 60 = 1) {D : va_G} {cA : Nat → ClassId} : ctH l sb D cA 32 6 as_134 B_134 hp_134 (os_134.map (fun w => w.1)) := ctH_of htr hvs (M := 32) (by decide) (lev := 5) (by decide) (L := us_134) (by decide +kernel) (fun _ h => absurd h List.not_mem_nil) (n := 20000) (sp := sp_134) (isC := ic_134) (c0 := c_134_0) (K := K_134) (by decide +kernel) rfl (List.forall_mem_cons.mpr ⟨k_134_0, (fun _ h => absurd h List.not_mem_nil)⟩)
/-! BalconyPort$Reader.isWord -/
def as_135 : List eV := [(2, 0, 0, 0), (5, 29, 0, 0)]
def B_135 : eB := ([(0, 700), ((-1), 700), (0, 5), (0, 700), (0, 700), (0, 255), (0, 700), ((-2147483648), 2147483647), (0, 1)], [])
def hp_135 : eH := [.inl (4, [(2, 1, 0, 0), (2, 2, 0, 0), (0, 4097, 0, 700), (0, 12289, (-1), 700), (0, 20481, 0, 5), (0, 28673, 0, 700), (0, 36865, 0, 700), (0, 45057, 0, 255), (0, 53249, 0, 700), (0, 61441, (-2147483648), 2147483647), (0, 69633, 0, 1)]), fr9 1, .inr (2, 700, (0, 0, (-128), 127), [])]
def th_135 : List (Option eP) := [some (1, 0, 2), some (1, 0, 3), some (1, 0, 4), some (1, 0, 5), some (1, 0, 6), some (1, 0, 7), some (1, 0, 8), some (1, 0, 9), some (1, 0, 10)]
def os_135 : List (eO × List (Option eP)) := [((0, some (0, 77825, 0, 1), (B_135.1 ++ [(0, 1)], []), hp_135), nTh 9 [(0, 0, 0)])]
def cd_135 (φ : List Nat) : eCd := (as_135, B_135, hp_135, th_135, os_135.map (fun w => w.1), φ)
def us_135 : eUs := []
def sp_135 : List (Nat × Nat) := []
def ic_135 (pc : Nat) : Bool := false
def c_135_0 : eCut := ((0, eArgs 0 as_135, [], B_135, hp_135, 0, 0), [], [(900000, 0, 0)])
def K_135 : List eCut := []
set_option maxRecDepth 1000000 in
theorem k_135_0 : ckM 32 sp_135 us_135 ic_135 20000 9 3 os_135 (c_135_0 :: K_135) c_135_0 = true := by decide +kernel
set_option maxRecDepth 100000 in
theorem ok_135 {l : Launch} (htr : l.stackTraces = false) {sb : eSB} (hvs : sb.1 60 = 1) {D : va_G} {cA : Nat → ClassId} : ctH l sb D cA 32 6 as_135 B_135 hp_135 (os_135.map (fun w => w.1)) := ctH_of htr hvs (M := 32) (by decide) (lev := 5) (by decide) (L := us_135) (by decide +kernel) (fun _ h => absurd h List.not_mem_nil) (n := 20000) (sp := sp_135) (isC := ic_135) (c0 := c_135_0) (K := K_135) (by decide +kernel) rfl (List.forall_mem_cons.mpr ⟨k_135_0, (fun _ h => absurd h List.not_mem_nil)⟩)
/-! BalconyPort$Reader.readEnd -/
def as_136 : List eV := [(2, 0, 0, 0), (0, 77825, 0, 255)]
def B_136 : eB := ([(0, 700), ((-1), 700), (0, 5), (0, 700), (0, 700), (0, 255), (0, 700), ((-2147483648), 2147483647), (0, 1), (0, 255)], [])
def hp_136 : eH := [.inl (4, [(2, 1, 0, 0), (2, 2, 0, 0), (0, 4097, 0, 700), (0, 12289, (-1), 700), (0, 20481, 0, 5), (0, 28673, 0, 700), (0, 36865, 0, 700), (0, 45057, 0, 255), (0, 53249, 0, 700), (0, 61441, (-2147483648), 2147483647), (0, 69633, 0, 1)]), fr9 1, .inr (2, 700, (0, 0, (-128), 127), [])]
def th_136 : List (Option eP) := [some (1, 0, 2), some (1, 0, 3), some (1, 0, 4), some (1, 0, 5), some (1, 0, 6), some (1, 0, 7), some (1, 0, 8), some (1, 0, 9), some (1, 0, 10), some (0, 1, 0)]
def os_136 : List (eO × List (Option eP)) := [((0, some (0, 86017, 0, 1), (B_136.1 ++ [(0, 1), ((-1), 700), (0, 5), (0, 700), (0, 255), (0, 700), ((-2147483648), 2147483647)], []), hS hp_136 [(0, oS hp_136 0 [(3, (0, 94209, (-1), 700)), (4, (0, 102401, 0, 5)), (6, (0, 110593, 0, 700)), (7, (0, 118785, 0, 255)), (8, (0, 126977, 0, 700)), (9, (0, 135169, (-2147483648), 2147483647))])]), nTh 10 [(0, 0, 0), (1, 0, 3), (1, 0, 4), (1, 0, 6), (1, 0, 7), (1, 0, 8), (1, 0, 9)])]
def cd_136 (φ : List Nat) : eCd := (as_136, B_136, hp_136, th_136, os_136.map (fun w => w.1), φ)
def us_136 : eUs := [(15, 33, [cd_121 [0, 1, 2]])]
def sp_136 : List (Nat × Nat) := []
def ic_136 (pc : Nat) : Bool := false
def c_136_0 : eCut := ((0, eArgs 0 as_136, [], B_136, hp_136, 0, 0), [], [(900000, 0, 0)])
def K_136 : List eCut := []
set_option maxRecDepth 1000000 in
theorem k_136_0 : ckM 37 sp_136 us_136 ic_136 20000 10 3 os_136 (c_136_0 :: K_136) c_136_0 = true := by decide +kernel
set_option maxRecDepth 100000 in
theorem ok_136 {l : Launch} (htr : l.stackTraces = false) {sb : eSB} (hvs : sb.1 60 = 1) {D : va_G} {cA : Nat → ClassId} : ctH l sb D cA 37 8 as_136 B_136 hp_136 (os_136.map (fun w => w.1)) := ctH_of htr hvs (M := 37) (by decide) (lev := 7) (by decide) (L := us_136) (by decide +kernel) (List.forall_mem_cons.mpr ⟨(List.forall_mem_cons.mpr ⟨(fun FR => ctH_mono (by decide) (ok_121 htr (sb := (sb.1, FR)) hvs)), (fun _ h => absurd h List.not_mem_nil)⟩), (fun _ h => absurd h List.not_mem_nil)⟩) (n := 20000) (sp := sp_136) (isC := ic_136) (c0 := c_136_0) (K := K_136) (by decide +kernel) rfl (List.forall_mem_cons.mpr ⟨k_136_0, (fun _ h => absurd h List.not_mem_nil)⟩)
/-! BalconyPort$Reader.beginOnce -/
def as_137 : List eV := [(2, 0, 0, 0), (0, 77825, 0, 1)]
def B_137 : eB := ([(0, 700), ((-1), 700), (0, 5), (0, 700), (0, 700), (0, 255), (0, 700), ((-2147483648), 2147483647), (0, 1), (0, 1)], [])
def hp_137 : eH := [.inl (4, [(2, 1, 0, 0), (2, 2, 0, 0), (0, 4097, 0, 700), (0, 12289, (-1), 700), (0, 20481, 0, 5), (0, 28673, 0, 700), (0, 36865, 0, 700), (0, 45057, 0, 255), (0, 53249, 0, 700), (0, 61441, (-2147483648), 2147483647), (0, 69633, 0, 1)]), fr9 1, .inr (2, 700, (0, 0, (-128), 127), [])]
def th_137 : List (Option eP) := [some (1, 0, 2), some (1, 0, 3), some (1, 0, 4), some (1, 0, 5), some (1, 0, 6), some (1, 0, 7), some (1, 0, 8), some (1, 0, 9), some (1, 0, 10), some (0, 1, 0)]
def os_137 : List (eO × List (Option eP)) := [((0, some (0, 86017, 0, 1), (B_137.1 ++ [(0, 1), ((-1), 700), (0, 5), (0, 700), (0, 255), (0, 700), ((-2147483648), 2147483647)], []), hS hp_137 [(0, oS hp_137 0 [(3, (0, 94209, (-1), 700)), (4, (0, 102401, 0, 5)), (6, (0, 110593, 0, 700)), (7, (0, 118785, 0, 255)), (8, (0, 126977, 0, 700)), (9, (0, 135169, (-2147483648), 2147483647))])]), nTh 10 [(0, 0, 0), (1, 0, 3), (1, 0, 4), (1, 0, 6), (1, 0, 7), (1, 0, 8), (1, 0, 9)])]
def cd_137 (φ : List Nat) : eCd := (as_137, B_137, hp_137, th_137, os_137.map (fun w => w.1), φ)
def us_137 : eUs := [(11, 33, [cd_121 [0, 1, 2]])]
def sp_137 : List (Nat × Nat) := []
def ic_137 (pc : Nat) : Bool := false
def c_137_0 : eCut := ((0, eArgs 0 as_137, [], B_137, hp_137, 0, 0), [], [(900000, 0, 0)])
def K_137 : List eCut := []
set_option maxRecDepth 1000000 in
theorem k_137_0 : ckM 27 sp_137 us_137 ic_137 20000 10 3 os_137 (c_137_0 :: K_137) c_137_0 = true := by decide +kernel
set_option maxRecDepth 100000 in
theorem ok_137 {l : Launch} (htr : l.stackTraces = false) {sb : eSB} (hvs : sb.1 60 = 1) {D : va_G} {cA : Nat → ClassId} : ctH l sb D cA 27 8 as_137 B_137 hp_137 (os_137.map (fun w => w.1)) := ctH_of htr hvs (M := 27) (by decide) (lev := 7) (by decide) (L := us_137) (by decide +kernel) (List.forall_mem_cons.mpr ⟨(List.forall_mem_cons.mpr ⟨(fun FR => ctH_mono (by decide) (ok_121 htr (sb := (sb.1, FR)) hvs)), (fun _ h => absurd h List.not_mem_nil)⟩), (fun _ h => absurd h List.not_mem_nil)⟩) (n := 20000) (sp := sp_137) (isC := ic_137) (c0 := c_137_0) (K := K_137) (by decide +kernel) rfl (List.forall_mem_cons.mpr ⟨k_137_0, (fun _ h => absurd h List.not_mem_nil)⟩)
/-! BalconyPort$Reader.addSign -/
def as_138 : List eV := [(2, 0, 0, 0), (0, 110593, (-2147483648), 2147483647)]
def B_138 : eB := ([(0, 10), (0, 10), (0, 10), (0, 700), (0, 700), ((-1), 700), (0, 5), (0, 700), (0, 700), (0, 255), (0, 700), ((-2147483648), 2147483647), (0, 1), ((-2147483648), 2147483647)], [])
def hp_138 : eH := [.inl (4, [(2, 1, 0, 0), (2, 13, 0, 0), (0, 36865, 0, 700), (0, 45057, (-1), 700), (0, 53249, 0, 5), (0, 61441, 0, 700), (0, 69633, 0, 700), (0, 77825, 0, 255), (0, 86017, 0, 700), (0, 94209, (-2147483648), 2147483647), (0, 102401, 0, 1)]), .inl (3, [(0, 4097, 0, 10), (0, 12289, 0, 10), (0, 20481, 0, 10), (0, 28673, 0, 700), (2, 2, 0, 0), (2, 3, 0, 0), (2, 4, 0, 0), (2, 5, 0, 0), (2, 6, 0, 0), (2, 7, 0, 0), (2, 8, 0, 0), (2, 9, 0, 0), (2, 10, 0, 0), (2, 11, 0, 0), (2, 12, 0, 0)]), fr9 2, fr9 3, fr9 4, fr9 5, fr9 6, fr9 7, fr9 8, fr9 9, .inr (0, 700, eTop, []), fr9 11, fr9 12, fr9 13]
def th_138 : List (Option eP) := [some (1, 1, 0), some (1, 1, 1), some (1, 1, 2), some (1, 1, 3), some (1, 0, 2), some (1, 0, 3), some (1, 0, 4), some (1, 0, 5), some (1, 0, 6), some (1, 0, 7), some (1, 0, 8), some (1, 0, 9), some (1, 0, 10), some (0, 1, 0)]
def os_138 : List (eO × List (Option eP)) := [((0, some (0, 118785, 0, 1), (B_138.1 ++ [(0, 1), ((-1), 700), (0, 5), (1, 700)], []), hS hp_138 [(0, oS hp_138 0 [(3, (0, 126977, (-1), 700)), (4, (0, 135169, 0, 5))]), (1, oS hp_138 1 [(3, (0, 143361, 1, 700))])]), nTh 14 [(0, 0, 0), (1, 0, 3), (1, 0, 4), (1, 1, 3)])]
def cd_138 (φ : List Nat) : eCd := (as_138, B_138, hp_138, th_138, os_138.map (fun w => w.1), φ)
def us_138 : eUs := []
def sp_138 : List (Nat × Nat) := []
def ic_138 (pc : Nat) : Bool := false
def c_138_0 : eCut := ((0, eArgs 0 as_138, [], B_138, hp_138, 0, 0), [], [(900000, 0, 0)])
def K_138 : List eCut := []
set_option maxRecDepth 1000000 in
theorem k_138_0 : ckM 26 sp_138 us_138 ic_138 20000 14 14 os_138 (c_138_0 :: K_138) c_138_0 = true := by decide +kernel
set_option maxRecDepth 100000 in
theorem ok_138 {l : Launch} (htr : l.stackTraces = false) {sb : eSB} (hvs : sb.1 60 = 1) {D : va_G} {cA : Nat → ClassId} : ctH l sb D cA 26 6 as_138 B_138 hp_138 (os_138.map (fun w => w.1)) := ctH_of htr hvs (M := 26) (by decide) (lev := 5) (by decide) (L := us_138) (by decide +kernel) (fun _ h => absurd h List.not_mem_nil) (n := 20000) (sp := sp_138) (isC := ic_138) (c0 := c_138_0) (K := K_138) (by decide +kernel) rfl (List.forall_mem_cons.mpr ⟨k_138_0, (fun _ h => absurd h List.not_mem_nil)⟩)
/-! BalconyPort$Reader.valueSign -/
def as_139 : List eV := [(2, 0, 0, 0)]
def B_139 : eB := ([(0, 700), ((-1), 700), (0, 5), (0, 700), (0, 700), (0, 255), (0, 700), ((-2147483648), 2147483647), (0, 1)], [])
def hp_139 : eH := [.inl (4, [(2, 1, 0, 0), (2, 2, 0, 0), (0, 4097, 0, 700), (0, 12289, (-1), 700), (0, 20481, 0, 5), (0, 28673, 0, 700), (0, 36865, 0, 700), (0, 45057, 0, 255), (0, 53249, 0, 700), (0, 61441, (-2147483648), 2147483647), (0, 69633, 0, 1)]), fr9 1, .inr (2, 700, (0, 0, (-128), 127), [])]
def th_139 : List (Option eP) := [some (1, 0, 2), some (1, 0, 3), some (1, 0, 4), some (1, 0, 5), some (1, 0, 6), some (1, 0, 7), some (1, 0, 8), some (1, 0, 9), some (1, 0, 10)]
def os_139 : List (eO × List (Option eP)) := [((0, some (0, 77825, (-7), 0), (B_139.1 ++ [((-7), 0)], []), hp_139), nTh 9 [(0, 0, 0)])]
def cd_139 (φ : List Nat) : eCd := (as_139, B_139, hp_139, th_139, os_139.map (fun w => w.1), φ)
def us_139 : eUs := [(3, 32, [cd_125 [0, 1, 2]]), (14, 32, [cd_128 [0, 1, 2]]), (26, 32, [cd_129 [0, 1, 2]]), (38, 32, [cd_130 [0, 1, 2]]), (50, 32, [cd_131 [0, 1, 2]]), (62, 32, [cd_132 [0, 1, 2]]), (74, 32, [cd_133 [0, 1, 2]])]
def sp_139 : List (Nat × Nat) := []
def ic_139 (pc : Nat) : Bool := false
def c_139_0 : eCut := ((0, eArgs 0 as_139, [], B_139, hp_139, 0, 0), [], [(900000, 0, 0)])
def K_139 : List eCut := []
set_option maxRecDepth 1000000 in
theorem k_139_0 : ckM 52 sp_139 us_139 ic_139 20000 9 3 os_139 (c_139_0 :: K_139) c_139_0 = true := by decide +kernel
set_option maxRecDepth 100000 in
theorem ok_139 {l : Launch} (htr : l.stackTraces = false) {sb : eSB} (hvs : sb.1 60 = 1) {D : va_G} {cA : Nat → ClassId} : ctH l sb D cA 52 7 as_139 B_139 hp_139 (os_139.map (fun w => w.1)) := ctH_of htr hvs (M := 52) (by decide) (lev := 6) (by decide) (L := us_139) (by decide +kernel) (List.forall_mem_cons.mpr ⟨(List.forall_mem_cons.mpr ⟨(fun FR => ctH_mono (by decide) (ok_125 htr (sb := (sb.1, FR)) hvs)), (fun _ h => absurd h List.not_mem_nil)⟩), (List.forall_mem_cons.mpr ⟨(List.forall_mem_cons.mpr ⟨(fun FR => ctH_mono (by decide) (ok_128 htr (sb := (sb.1, FR)) hvs)), (fun _ h => absurd h List.not_mem_nil)⟩), (List.forall_mem_cons.mpr ⟨(List.forall_mem_cons.mpr ⟨(fun FR => ctH_mono (by decide) (ok_129 htr (sb := (sb.1, FR)) hvs)), (fun _ h => absurd h List.not_mem_nil)⟩), (List.forall_mem_cons.mpr ⟨(List.forall_mem_cons.mpr ⟨(fun FR => ctH_mono (by decide) (ok_130 htr (sb := (sb.1, FR)) hvs)), (fun _ h => absurd h List.not_mem_nil)⟩), (List.forall_mem_cons.mpr ⟨(List.forall_mem_cons.mpr ⟨(fun FR => ctH_mono (by decide) (ok_131 htr (sb := (sb.1, FR)) hvs)), (fun _ h => absurd h List.not_mem_nil)⟩), (List.forall_mem_cons.mpr ⟨(List.forall_mem_cons.mpr ⟨(fun FR => ctH_mono (by decide) (ok_132 htr (sb := (sb.1, FR)) hvs)), (fun _ h => absurd h List.not_mem_nil)⟩), (List.forall_mem_cons.mpr ⟨(List.forall_mem_cons.mpr ⟨(fun FR => ctH_mono (by decide) (ok_133 htr (sb := (sb.1, FR)) hvs)), (fun _ h => absurd h List.not_mem_nil)⟩), (fun _ h => absurd h List.not_mem_nil)⟩)⟩)⟩)⟩)⟩)⟩)⟩) (n := 20000) (sp := sp_139) (isC := ic_139) (c0 := c_139_0) (K := K_139) (by decide +kernel) rfl (List.forall_mem_cons.mpr ⟨k_139_0, (fun _ h => absurd h List.not_mem_nil)⟩)
/-! BalconyPort$Reader.readNumber -/
def as_140 : List eV := [(2, 0, 0, 0), (2, 3, 0, 0), (0, 77825, 0, 9), (eI 1), (eI 20)]
def B_140 : eB := ([(0, 700), ((-1), 700), (0, 5), (0, 700), (0, 700), (0, 255), (0, 700), ((-2147483648), 2147483647), (0, 1), (0, 9)], [])
def hp_140 : eH := [.inl (4, [(2, 1, 0, 0), (2, 2, 0, 0), (0, 4097, 0, 700), (0, 12289, (-1), 700), (0, 20481, 0, 5), (0, 28673, 0, 700), (0, 36865, 0, 700), (0, 45057, 0, 255), (0, 53249, 0, 700), (0, 61441, (-2147483648), 2147483647), (0, 69633, 0, 1)]), fr9 1, .inr (2, 700, (0, 0, (-128), 127), []), .inr (0, 10, (0, 0, 0, 20), [])]
def th_140 : List (Option eP) := [some (1, 0, 2), some (1, 0, 3), some (1, 0, 4), some (1, 0, 5), some (1, 0, 6), some (1, 0, 7), some (1, 0, 8), some (1, 0, 9), some (1, 0, 10), some (0, 2, 0)]
def os_140 : List (eO × List (Option eP)) := [((0, some (0, 86017, 0, 1), (B_140.1 ++ [(0, 1), ((-1), 700), (0, 5), (0, 700), (0, 255), (0, 700), ((-2147483648), 2147483647)], []), hS hp_140 [(0, oS hp_140 0 [(3, (0, 94209, (-1), 700)), (4, (0, 102401, 0, 5)), (6, (0, 110593, 0, 700)), (7, (0, 118785, 0, 255)), (8, (0, 126977, 0, 700)), (9, (0, 135169, (-2147483648), 2147483647))])]), nTh 10 [(0, 0, 0), (1, 0, 3), (1, 0, 4), (1, 0, 6), (1, 0, 7), (1, 0, 8), (1, 0, 9)])]
def cd_140 (φ : List Nat) : eCd := (as_140, B_140, hp_140, th_140, os_140.map (fun w => w.1), φ)
def us_140 : eUs := [(55, 33, [cd_121 [0, 1, 2]])]
def sp_140 : List (Nat × Nat) := []
def ic_140 (pc : Nat) : Bool := false
def c_140_0 : eCut := ((0, eArgs 0 as_140, [], B_140, hp_140, 0, 0), [], [(900000, 0, 0)])
def K_140 : List eCut := []
set_option maxRecDepth 1000000 in
theorem k_140_0 : ckM 40 sp_140 us_140 ic_140 20000 10 4 os_140 (c_140_0 :: K_140) c_140_0 = true := by decide +kernel
set_option maxRecDepth 100000 in
theorem ok_140 {l : Launch} (htr : l.stackTraces = false) {sb : eSB} (hvs : sb.1 60 = 1) {D : va_G} {cA : Nat → ClassId} : ctH l sb D cA 40 8 as_140 B_140 hp_140 (os_140.map (fun w => w.1)) := ctH_of htr hvs (M := 40) (by decide) (lev := 7) (by decide) (L := us_140) (by decide +kernel) (List.forall_mem_cons.mpr ⟨(List.forall_mem_cons.mpr ⟨(fun FR => ctH_mono (by decide) (ok_121 htr (sb := (sb.1, FR)) hvs)), (fun _ h => absurd h List.not_mem_nil)⟩), (fun _ h => absurd h List.not_mem_nil)⟩) (n := 20000) (sp := sp_140) (isC := ic_140) (c0 := c_140_0) (K := K_140) (by decide +kernel) rfl (List.forall_mem_cons.mpr ⟨k_140_0, (fun _ h => absurd h List.not_mem_nil)⟩)
/-! BalconyPort$Reader.readNumber -/
def as_141 : List eV := [(2, 0, 0, 0), (2, 3, 0, 0), (0, 77825, 0, 9), (eI 1), (eI 9)]
def B_141 : eB := ([(0, 700), ((-1), 700), (0, 5), (0, 700), (0, 700), (0, 255), (0, 700), ((-2147483648), 2147483647), (0, 1), (0, 9)], [])
def hp_141 : eH := [.inl (4, [(2, 1, 0, 0), (2, 2, 0, 0), (0, 4097, 0, 700), (0, 12289, (-1), 700), (0, 20481, 0, 5), (0, 28673, 0, 700), (0, 36865, 0, 700), (0, 45057, 0, 255), (0, 53249, 0, 700), (0, 61441, (-2147483648), 2147483647), (0, 69633, 0, 1)]), fr9 1, .inr (2, 700, (0, 0, (-128), 127), []), .inr (0, 10, (0, 0, 0, 9), [])]
def th_141 : List (Option eP) := [some (1, 0, 2), some (1, 0, 3), some (1, 0, 4), some (1, 0, 5), some (1, 0, 6), some (1, 0, 7), some (1, 0, 8), some (1, 0, 9), some (1, 0, 10), some (0, 2, 0)]
def os_141 : List (eO × List (Option eP)) := [((0, some (0, 86017, 0, 1), (B_141.1 ++ [(0, 1), ((-1), 700), (0, 5), (0, 700), (0, 255), (0, 700), ((-2147483648), 2147483647)], []), hS hp_141 [(0, oS hp_141 0 [(3, (0, 94209, (-1), 700)), (4, (0, 102401, 0, 5)), (6, (0, 110593, 0, 700)), (7, (0, 118785, 0, 255)), (8, (0, 126977, 0, 700)), (9, (0, 135169, (-2147483648), 2147483647))])]), nTh 10 [(0, 0, 0), (1, 0, 3), (1, 0, 4), (1, 0, 6), (1, 0, 7), (1, 0, 8), (1, 0, 9)])]
def cd_141 (φ : List Nat) : eCd := (as_141, B_141, hp_141, th_141, os_141.map (fun w => w.1), φ)
def us_141 : eUs := [(55, 33, [cd_121 [0, 1, 2]])]
def sp_141 : List (Nat × Nat) := []
def ic_141 (pc : Nat) : Bool := false
def c_141_0 : eCut := ((0, eArgs 0 as_141, [], B_141, hp_141, 0, 0), [], [(900000, 0, 0)])
def K_141 : List eCut := []
set_option maxRecDepth 1000000 in
theorem k_141_0 : ckM 40 sp_141 us_141 ic_141 20000 10 4 os_141 (c_141_0 :: K_141) c_141_0 = true := by decide +kernel
set_option maxRecDepth 100000 in
theorem ok_141 {l : Launch} (htr : l.stackTraces = false) {sb : eSB} (hvs : sb.1 60 = 1) {D : va_G} {cA : Nat → ClassId} : ctH l sb D cA 40 8 as_141 B_141 hp_141 (os_141.map (fun w => w.1)) := ctH_of htr hvs (M := 40) (by decide) (lev := 7) (by decide) (L := us_141) (by decide +kernel) (List.forall_mem_cons.mpr ⟨(List.forall_mem_cons.mpr ⟨(fun FR => ctH_mono (by decide) (ok_121 htr (sb := (sb.1, FR)) hvs)), (fun _ h => absurd h List.not_mem_nil)⟩), (fun _ h => absurd h List.not_mem_nil)⟩) (n := 20000) (sp := sp_141) (isC := ic_141) (c0 := c_141_0) (K := K_141) (by decide +kernel) rfl (List.forall_mem_cons.mpr ⟨k_141_0, (fun _ h => absurd h List.not_mem_nil)⟩)
/-! BalconyPort$Reader.readNumber -/
def as_142 : List eV := [(2, 0, 0, 0), (2, 3, 0, 0), (0, 77825, 0, 9), (eI 0), (eI 9)]
def B_142 : eB := ([(0, 700), ((-1), 700), (0, 5), (0, 700), (0, 700), (0, 255), (0, 700), ((-2147483648), 2147483647), (0, 1), (0, 9)], [])
def hp_142 : eH := [.inl (4, [(2, 1, 0, 0), (2, 2, 0, 0), (0, 4097, 0, 700), (0, 12289, (-1), 700), (0, 20481, 0, 5), (0, 28673, 0, 700), (0, 36865, 0, 700), (0, 45057, 0, 255), (0, 53249, 0, 700), (0, 61441, (-2147483648), 2147483647), (0, 69633, 0, 1)]), fr9 1, .inr (2, 700, (0, 0, (-128), 127), []), .inr (0, 10, (0, 0, 0, 9), [])]
def th_142 : List (Option eP) := [some (1, 0, 2), some (1, 0, 3), some (1, 0, 4), some (1, 0, 5), some (1, 0, 6), some (1, 0, 7), some (1, 0, 8), some (1, 0, 9), some (1, 0, 10), some (0, 2, 0)]
def os_142 : List (eO × List (Option eP)) := [((0, some (0, 86017, 0, 1), (B_142.1 ++ [(0, 1), ((-1), 700), (0, 5), (0, 700), (0, 255), (0, 700), ((-2147483648), 2147483647)], []), hS hp_142 [(0, oS hp_142 0 [(3, (0, 94209, (-1), 700)), (4, (0, 102401, 0, 5)), (6, (0, 110593, 0, 700)), (7, (0, 118785, 0, 255)), (8, (0, 126977, 0, 700)), (9, (0, 135169, (-2147483648), 2147483647))])]), nTh 10 [(0, 0, 0), (1, 0, 3), (1, 0, 4), (1, 0, 6), (1, 0, 7), (1, 0, 8), (1, 0, 9)])]
def cd_142 (φ : List Nat) : eCd := (as_142, B_142, hp_142, th_142, os_142.map (fun w => w.1), φ)
def us_142 : eUs := [(55, 33, [cd_121 [0, 1, 2]])]
def sp_142 : List (Nat × Nat) := []
def ic_142 (pc : Nat) : Bool := false
def c_142_0 : eCut := ((0, eArgs 0 as_142, [], B_142, hp_142, 0, 0), [], [(900000, 0, 0)])
def K_142 : List eCut := []
set_option maxRecDepth 1000000 in
theorem k_142_0 : ckM 40 sp_142 us_142 ic_142 20000 10 4 os_142 (c_142_0 :: K_142) c_142_0 = true := by decide +kernel
set_option maxRecDepth 100000 in
theorem ok_142 {l : Launch} (htr : l.stackTraces = false) {sb : eSB} (hvs : sb.1 60 = 1) {D : va_G} {cA : Nat → ClassId} : ctH l sb D cA 40 8 as_142 B_142 hp_142 (os_142.map (fun w => w.1)) := ctH_of htr hvs (M := 40) (by decide) (lev := 7) (by decide) (L := us_142) (by decide +kernel) (List.forall_mem_cons.mpr ⟨(List.forall_mem_cons.mpr ⟨(fun FR => ctH_mono (by decide) (ok_121 htr (sb := (sb.1, FR)) hvs)), (fun _ h => absurd h List.not_mem_nil)⟩), (fun _ h => absurd h List.not_mem_nil)⟩) (n := 20000) (sp := sp_142) (isC := ic_142) (c0 := c_142_0) (K := K_142) (by decide +kernel) rfl (List.forall_mem_cons.mpr ⟨k_142_0, (fun _ h => absurd h List.not_mem_nil)⟩)
/-! BalconyPort$Reader.readNumber -/
def as_143 : List eV := [(2, 0, 0, 0), (2, 3, 0, 0), (0, 77825, 0, 9), (eI 0), (eI 3)]
def B_143 : eB := ([(0, 700), ((-1), 700), (0, 5), (0, 700), (0, 700), (0, 255), (0, 700), ((-2147483648), 2147483647), (0, 1), (0, 9)], [])
def hp_143 : eH := [.inl (4, [(2, 1, 0, 0), (2, 2, 0, 0), (0, 4097, 0, 700), (0, 12289, (-1), 700), (0, 20481, 0, 5), (0, 28673, 0, 700), (0, 36865, 0, 700), (0, 45057, 0, 255), (0, 53249, 0, 700), (0, 61441, (-2147483648), 2147483647), (0, 69633, 0, 1)]), fr9 1, .inr (2, 700, (0, 0, (-128), 127), []), .inr (0, 10, (0, 0, 0, 3), [])]
def th_143 : List (Option eP) := [some (1, 0, 2), some (1, 0, 3), some (1, 0, 4), some (1, 0, 5), some (1, 0, 6), some (1, 0, 7), some (1, 0, 8), some (1, 0, 9), some (1, 0, 10), some (0, 2, 0)]
def os_143 : List (eO × List (Option eP)) := [((0, some (0, 86017, 0, 1), (B_143.1 ++ [(0, 1), ((-1), 700), (0, 5), (0, 700), (0, 255), (0, 700), ((-2147483648), 2147483647)], []), hS hp_143 [(0, oS hp_143 0 [(3, (0, 94209, (-1), 700)), (4, (0, 102401, 0, 5)), (6, (0, 110593, 0, 700)), (7, (0, 118785, 0, 255)), (8, (0, 126977, 0, 700)), (9, (0, 135169, (-2147483648), 2147483647))])]), nTh 10 [(0, 0, 0), (1, 0, 3), (1, 0, 4), (1, 0, 6), (1, 0, 7), (1, 0, 8), (1, 0, 9)])]
def cd_143 (φ : List Nat) : eCd := (as_143, B_143, hp_143, th_143, os_143.map (fun w => w.1), φ)
def us_143 : eUs := [(55, 33, [cd_121 [0, 1, 2]])]
def sp_143 : List (Nat × Nat) := []
def ic_143 (pc : Nat) : Bool := false
def c_143_0 : eCut := ((0, eArgs 0 as_143, [], B_143, hp_143, 0, 0), [], [(900000, 0, 0)])
def K_143 : List eCut := []
set_option maxRecDepth 1000000 in
theorem k_143_0 : ckM 40 sp_143 us_143 ic_143 20000 10 4 os_143 (c_143_0 :: K_143) c_143_0 = true := by decide +kernel
set_option maxRecDepth 100000 in
theorem ok_143 {l : Launch} (htr : l.stackTraces = false) {sb : eSB} (hvs : sb.1 60 = 1) {D : va_G} {cA : Nat → ClassId} : ctH l sb D cA 40 8 as_143 B_143 hp_143 (os_143.map (fun w => w.1)) := ctH_of htr hvs (M := 40) (by decide) (lev := 7) (by decide) (L := us_143) (by decide +kernel) (List.forall_mem_cons.mpr ⟨(List.forall_mem_cons.mpr ⟨(fun FR => ctH_mono (by decide) (ok_121 htr (sb := (sb.1, FR)) hvs)), (fun _ h => absurd h List.not_mem_nil)⟩), (fun _ h => absurd h List.not_mem_nil)⟩) (n := 20000) (sp := sp_143) (isC := ic_143) (c0 := c_143_0) (K := K_143) (by decide +kernel) rfl (List.forall_mem_cons.mpr ⟨k_143_0, (fun _ h => absurd h List.not_mem_nil)⟩)
/-! BalconyPort$Reader.readNumber -/
def as_144 : List eV := [(2, 0, 0, 0), (2, 3, 0, 0), (0, 77825, 0, 9), (eI 1), (eI 9)]
def B_144 : eB := ([(0, 700), ((-1), 700), (0, 5), (0, 700), (0, 700), (0, 255), (0, 700), ((-2147483648), 2147483647), (0, 1), (0, 9)], [])
def hp_144 : eH := [.inl (4, [(2, 1, 0, 0), (2, 2, 0, 0), (0, 4097, 0, 700), (0, 12289, (-1), 700), (0, 20481, 0, 5), (0, 28673, 0, 700), (0, 36865, 0, 700), (0, 45057, 0, 255), (0, 53249, 0, 700), (0, 61441, (-2147483648), 2147483647), (0, 69633, 0, 1)]), fr9 1, .inr (2, 700, (0, 0, (-128), 127), []), .inr (0, 10, (0, 0, 0, 9), [])]
def th_144 : List (Option eP) := [some (1, 0, 2), some (1, 0, 3), some (1, 0, 4), some (1, 0, 5), some (1, 0, 6), some (1, 0, 7), some (1, 0, 8), some (1, 0, 9), some (1, 0, 10), some (0, 2, 0)]
def os_144 : List (eO × List (Option eP)) := [((0, some (0, 86017, 0, 1), (B_144.1 ++ [(0, 1), ((-1), 700), (0, 5), (0, 700), (0, 255), (0, 700), ((-2147483648), 2147483647)], []), hS hp_144 [(0, oS hp_144 0 [(3, (0, 94209, (-1), 700)), (4, (0, 102401, 0, 5)), (6, (0, 110593, 0, 700)), (7, (0, 118785, 0, 255)), (8, (0, 126977, 0, 700)), (9, (0, 135169, (-2147483648), 2147483647))])]), nTh 10 [(0, 0, 0), (1, 0, 3), (1, 0, 4), (1, 0, 6), (1, 0, 7), (1, 0, 8), (1, 0, 9)])]
def cd_144 (φ : List Nat) : eCd := (as_144, B_144, hp_144, th_144, os_144.map (fun w => w.1), φ)
def us_144 : eUs := [(55, 33, [cd_121 [0, 1, 2]])]
def sp_144 : List (Nat × Nat) := []
def ic_144 (pc : Nat) : Bool := false
def c_144_0 : eCut := ((0, eArgs 0 as_144, [], B_144, hp_144, 0, 0), [], [(900000, 0, 0)])
def K_144 : List eCut := []
set_option maxRecDepth 1000000 in
theorem k_144_0 : ckM 40 sp_144 us_144 ic_144 20000 10 4 os_144 (c_144_0 :: K_144) c_144_0 = true := by decide +kernel
set_option maxRecDepth 100000 in
theorem ok_144 {l : Launch} (htr : l.stackTraces = false) {sb : eSB} (hvs : sb.1 60 = 1) {D : va_G} {cA : Nat → ClassId} : ctH l sb D cA 40 8 as_144 B_144 hp_144 (os_144.map (fun w => w.1)) := ctH_of htr hvs (M := 40) (by decide) (lev := 7) (by decide) (L := us_144) (by decide +kernel) (List.forall_mem_cons.mpr ⟨(List.forall_mem_cons.mpr ⟨(fun FR => ctH_mono (by decide) (ok_121 htr (sb := (sb.1, FR)) hvs)), (fun _ h => absurd h List.not_mem_nil)⟩), (fun _ h => absurd h List.not_mem_nil)⟩) (n := 20000) (sp := sp_144) (isC := ic_144) (c0 := c_144_0) (K := K_144) (by decide +kernel) rfl (List.forall_mem_cons.mpr ⟨k_144_0, (fun _ h => absurd h List.not_mem_nil)⟩)
/-! BalconyPort$Reader.readNumber -/
def as_145 : List eV := [(2, 0, 0, 0), (2, 3, 0, 0), (0, 77825, 0, 9), (eI 0), (eI 20)]
def B_145 : eB := ([(0, 700), ((-1), 700), (0, 5), (0, 700), (0, 700), (0, 255), (0, 700), ((-2147483648), 2147483647), (0, 1), (0, 9)], [])
def hp_145 : eH := [.inl (4, [(2, 1, 0, 0), (2, 2, 0, 0), (0, 4097, 0, 700), (0, 12289, (-1), 700), (0, 20481, 0, 5), (0, 28673, 0, 700), (0, 36865, 0, 700), (0, 45057, 0, 255), (0, 53249, 0, 700), (0, 61441, (-2147483648), 2147483647), (0, 69633, 0, 1)]), fr9 1, .inr (2, 700, (0, 0, (-128), 127), []), .inr (0, 10, (0, 0, 0, 20), [])]
def th_145 : List (Option eP) := [some (1, 0, 2), some (1, 0, 3), some (1, 0, 4), some (1, 0, 5), some (1, 0, 6), some (1, 0, 7), some (1, 0, 8), some (1, 0, 9), some (1, 0, 10), some (0, 2, 0)]
def os_145 : List (eO × List (Option eP)) := [((0, some (0, 86017, 0, 1), (B_145.1 ++ [(0, 1), ((-1), 700), (0, 5), (0, 700), (0, 255), (0, 700), ((-2147483648), 2147483647)], []), hS hp_145 [(0, oS hp_145 0 [(3, (0, 94209, (-1), 700)), (4, (0, 102401, 0, 5)), (6, (0, 110593, 0, 700)), (7, (0, 118785, 0, 255)), (8, (0, 126977, 0, 700)), (9, (0, 135169, (-2147483648), 2147483647))])]), nTh 10 [(0, 0, 0), (1, 0, 3), (1, 0, 4), (1, 0, 6), (1, 0, 7), (1, 0, 8), (1, 0, 9)])]
def cd_145 (φ : List Nat) : eCd := (as_145, B_145, hp_145, th_145, os_145.map (fun w => w.1), φ)
def us_145 : eUs := [(55, 33, [cd_121 [0, 1, 2]])]
def sp_145 : List (Nat × Nat) := []
def ic_145 (pc : Nat) : Bool := false
def c_145_0 : eCut := ((0, eArgs 0 as_145, [], B_145, hp_145, 0, 0), [], [(900000, 0, 0)])
def K_145 : List eCut := []
set_option maxRecDepth 1000000 in
theorem k_145_0 : ckM 40 sp_145 us_145 ic_145 20000 10 4 os_145 (c_145_0 :: K_145) c_145_0 = true := by decide +kernel
set_option maxRecDepth 100000 in
theorem ok_145 {l : Launch} (htr : l.stackTraces = false) {sb : eSB} (hvs : sb.1 60 = 1) {D : va_G} {cA : Nat → ClassId} : ctH l sb D cA 40 8 as_145 B_145 hp_145 (os_145.map (fun w => w.1)) := ctH_of htr hvs (M := 40) (by decide) (lev := 7) (by decide) (L := us_145) (by decide +kernel) (List.forall_mem_cons.mpr ⟨(List.forall_mem_cons.mpr ⟨(fun FR => ctH_mono (by decide) (ok_121 htr (sb := (sb.1, FR)) hvs)), (fun _ h => absurd h List.not_mem_nil)⟩), (fun _ h => absurd h List.not_mem_nil)⟩) (n := 20000) (sp := sp_145) (isC := ic_145) (c0 := c_145_0) (K := K_145) (by decide +kernel) rfl (List.forall_mem_cons.mpr ⟨k_145_0, (fun _ h => absurd h List.not_mem_nil)⟩)
/-! BalconyPort$Reader.readNumber -/
def as_146 : List eV := [(2, 0, 0, 0), (2, 3, 0, 0), (eI 0), (eI 1), (eI 99)]
def B_146 : eB := ([(0, 700), ((-1), 700), (0, 5), (0, 700), (0, 700), (0, 255), (0, 700), ((-2147483648), 2147483647), (0, 1)], [])
def hp_146 : eH := [.inl (4, [(2, 1, 0, 0), (2, 2, 0, 0), (0, 4097, 0, 700), (0, 12289, (-1), 700), (0, 20481, 0, 5), (0, 28673, 0, 700), (0, 36865, 0, 700), (0, 45057, 0, 255), (0, 53249, 0, 700), (0, 61441, (-2147483648), 2147483647), (0, 69633, 0, 1)]), fr9 1, .inr (2, 700, (0, 0, (-128), 127), []), .inr (0, 3, (0, 0, 1, 9), [(0, (0, 0, 1, 99))])]
def th_146 : List (Option eP) := [some (1, 0, 2), some (1, 0, 3), some (1, 0, 4), some (1, 0, 5), some (1, 0, 6), some (1, 0, 7), some (1, 0, 8), some (1, 0, 9), some (1, 0, 10)]
def os_146 : List (eO × List (Option eP)) := [((0, some (0, 77825, 0, 1), (B_146.1 ++ [(0, 1), ((-1), 700), (0, 5), (0, 700), (0, 255), (0, 700), ((-2147483648), 2147483647)], []), hS hp_146 [(0, oS hp_146 0 [(3, (0, 86017, (-1), 700)), (4, (0, 94209, 0, 5)), (6, (0, 102401, 0, 700)), (7, (0, 110593, 0, 255)), (8, (0, 118785, 0, 700)), (9, (0, 126977, (-2147483648), 2147483647))])]), nTh 9 [(0, 0, 0), (1, 0, 3), (1, 0, 4), (1, 0, 6), (1, 0, 7), (1, 0, 8), (1, 0, 9)])]
def cd_146 (φ : List Nat) : eCd := (as_146, B_146, hp_146, th_146, os_146.map (fun w => w.1), φ)
def us_146 : eUs := [(55, 33, [cd_121 [0, 1, 2]])]
def sp_146 : List (Nat × Nat) := []
def ic_146 (pc : Nat) : Bool := false
def c_146_0 : eCut := ((0, eArgs 0 as_146, [], B_146, hp_146, 0, 0), [], [(900000, 0, 0)])
def K_146 : List eCut := []
set_option maxRecDepth 1000000 in
theorem k_146_0 : ckM 40 sp_146 us_146 ic_146 20000 9 4 os_146 (c_146_0 :: K_146) c_146_0 = true := by decide +kernel
set_option maxRecDepth 100000 in
theorem ok_146 {l : Launch} (htr : l.stackTraces = false) {sb : eSB} (hvs : sb.1 60 = 1) {D : va_G} {cA : Nat → ClassId} : ctH l sb D cA 40 8 as_146 B_146 hp_146 (os_146.map (fun w => w.1)) := ctH_of htr hvs (M := 40) (by decide) (lev := 7) (by decide) (L := us_146) (by decide +kernel) (List.forall_mem_cons.mpr ⟨(List.forall_mem_cons.mpr ⟨(fun FR => ctH_mono (by decide) (ok_121 htr (sb := (sb.1, FR)) hvs)), (fun _ h => absurd h List.not_mem_nil)⟩), (fun _ h => absurd h List.not_mem_nil)⟩) (n := 20000) (sp := sp_146) (isC := ic_146) (c0 := c_146_0) (K := K_146) (by decide +kernel) rfl (List.forall_mem_cons.mpr ⟨k_146_0, (fun _ h => absurd h List.not_mem_nil)⟩)
/-! BalconyPort$Reader.readNumber -/
def as_147 : List eV := [(2, 0, 0, 0), (2, 3, 0, 0), (eI 1), (eI 1), (eI 9)]
def B_147 : eB := ([(0, 700), ((-1), 700), (0, 5), (0, 700), (0, 700), (0, 255), (0, 700), ((-2147483648), 2147483647), (0, 1)], [])
def hp_147 : eH := [.inl (4, [(2, 1, 0, 0), (2, 2, 0, 0), (0, 4097, 0, 700), (0, 12289, (-1), 700), (0, 20481, 0, 5), (0, 28673, 0, 700), (0, 36865, 0, 700), (0, 45057, 0, 255), (0, 53249, 0, 700), (0, 61441, (-2147483648), 2147483647), (0, 69633, 0, 1)]), fr9 1, .inr (2, 700, (0, 0, (-128), 127), []), .inr (0, 3, (0, 0, 1, 9), [(0, (0, 0, 1, 99))])]
def th_147 : List (Option eP) := [some (1, 0, 2), some (1, 0, 3), some (1, 0, 4), some (1, 0, 5), some (1, 0, 6), some (1, 0, 7), some (1, 0, 8), some (1, 0, 9), some (1, 0, 10)]
def os_147 : List (eO × List (Option eP)) := [((0, some (0, 77825, 0, 1), (B_147.1 ++ [(0, 1), ((-1), 700), (0, 5), (0, 700), (0, 255), (0, 700), ((-2147483648), 2147483647)], []), hS hp_147 [(0, oS hp_147 0 [(3, (0, 86017, (-1), 700)), (4, (0, 94209, 0, 5)), (6, (0, 102401, 0, 700)), (7, (0, 110593, 0, 255)), (8, (0, 118785, 0, 700)), (9, (0, 126977, (-2147483648), 2147483647))])]), nTh 9 [(0, 0, 0), (1, 0, 3), (1, 0, 4), (1, 0, 6), (1, 0, 7), (1, 0, 8), (1, 0, 9)])]
def cd_147 (φ : List Nat) : eCd := (as_147, B_147, hp_147, th_147, os_147.map (fun w => w.1), φ)
def us_147 : eUs := [(55, 33, [cd_121 [0, 1, 2]])]
def sp_147 : List (Nat × Nat) := []
def ic_147 (pc : Nat) : Bool := false
def c_147_0 : eCut := ((0, eArgs 0 as_147, [], B_147, hp_147, 0, 0), [], [(900000, 0, 0)])
def K_147 : List eCut := []
set_option maxRecDepth 1000000 in
theorem k_147_0 : ckM 40 sp_147 us_147 ic_147 20000 9 4 os_147 (c_147_0 :: K_147) c_147_0 = true := by decide +kernel
set_option maxRecDepth 100000 in
theorem ok_147 {l : Launch} (htr : l.stackTraces = false) {sb : eSB} (hvs : sb.1 60 = 1) {D : va_G} {cA : Nat → ClassId} : ctH l sb D cA 40 8 as_147 B_147 hp_147 (os_147.map (fun w => w.1)) := ctH_of htr hvs (M := 40) (by decide) (lev := 7) (by decide) (L := us_147) (by decide +kernel) (List.forall_mem_cons.mpr ⟨(List.forall_mem_cons.mpr ⟨(fun FR => ctH_mono (by decide) (ok_121 htr (sb := (sb.1, FR)) hvs)), (fun _ h => absurd h List.not_mem_nil)⟩), (fun _ h => absurd h List.not_mem_nil)⟩) (n := 20000) (sp := sp_147) (isC := ic_147) (c0 := c_147_0) (K := K_147) (by decide +kernel) rfl (List.forall_mem_cons.mpr ⟨k_147_0, (fun _ h => absurd h List.not_mem_nil)⟩)
/-! BalconyPort$Reader.readNumber -/
def as_148 : List eV := [(2, 0, 0, 0), (2, 3, 0, 0), (eI 2), (eI 1), (eI 9)]
def B_148 : eB := ([(0, 700), ((-1), 700), (0, 5), (0, 700), (0, 700), (0, 255), (0, 700), ((-2147483648), 2147483647), (0, 1)], [])
def hp_148 : eH := [.inl (4, [(2, 1, 0, 0), (2, 2, 0, 0), (0, 4097, 0, 700), (0, 12289, (-1), 700), (0, 20481, 0, 5), (0, 28673, 0, 700), (0, 36865, 0, 700), (0, 45057, 0, 255), (0, 53249, 0, 700), (0, 61441, (-2147483648), 2147483647), (0, 69633, 0, 1)]), fr9 1, .inr (2, 700, (0, 0, (-128), 127), []), .inr (0, 3, (0, 0, 1, 9), [(0, (0, 0, 1, 99))])]
def th_148 : List (Option eP) := [some (1, 0, 2), some (1, 0, 3), some (1, 0, 4), some (1, 0, 5), some (1, 0, 6), some (1, 0, 7), some (1, 0, 8), some (1, 0, 9), some (1, 0, 10)]
def os_148 : List (eO × List (Option eP)) := [((0, some (0, 77825, 0, 1), (B_148.1 ++ [(0, 1), ((-1), 700), (0, 5), (0, 700), (0, 255), (0, 700), ((-2147483648), 2147483647)], []), hS hp_148 [(0, oS hp_148 0 [(3, (0, 86017, (-1), 700)), (4, (0, 94209, 0, 5)), (6, (0, 102401, 0, 700)), (7, (0, 110593, 0, 255)), (8, (0, 118785, 0, 700)), (9, (0, 126977, (-2147483648), 2147483647))])]), nTh 9 [(0, 0, 0), (1, 0, 3), (1, 0, 4), (1, 0, 6), (1, 0, 7), (1, 0, 8), (1, 0, 9)])]
def cd_148 (φ : List Nat) : eCd := (as_148, B_148, hp_148, th_148, os_148.map (fun w => w.1), φ)
def us_148 : eUs := [(55, 33, [cd_121 [0, 1, 2]])]
def sp_148 : List (Nat × Nat) := []
def ic_148 (pc : Nat) : Bool := false
def c_148_0 : eCut := ((0, eArgs 0 as_148, [], B_148, hp_148, 0, 0), [], [(900000, 0, 0)])
def K_148 : List eCut := []
set_option maxRecDepth 1000000 in
theorem k_148_0 : ckM 40 sp_148 us_148 ic_148 20000 9 4 os_148 (c_148_0 :: K_148) c_148_0 = true := by decide +kernel
set_option maxRecDepth 100000 in
theorem ok_148 {l : Launch} (htr : l.stackTraces = false) {sb : eSB} (hvs : sb.1 60 = 1) {D : va_G} {cA : Nat → ClassId} : ctH l sb D cA 40 8 as_148 B_148 hp_148 (os_148.map (fun w => w.1)) := ctH_of htr hvs (M := 40) (by decide) (lev := 7) (by decide) (L := us_148) (by decide +kernel) (List.forall_mem_cons.mpr ⟨(List.forall_mem_cons.mpr ⟨(fun FR => ctH_mono (by decide) (ok_121 htr (sb := (sb.1, FR)) hvs)), (fun _ h => absurd h List.not_mem_nil)⟩), (fun _ h => absurd h List.not_mem_nil)⟩) (n := 20000) (sp := sp_148) (isC := ic_148) (c0 := c_148_0) (K := K_148) (by decide +kernel) rfl (List.forall_mem_cons.mpr ⟨k_148_0, (fun _ h => absurd h List.not_mem_nil)⟩)
/-! BalconyPort$Reader.readNumber -/
def as_149 : List eV := [(2, 0, 0, 0), (2, 3, 0, 0), (0, 77825, 0, 9), (eI 0), (eI 9)]
def B_149 : eB := ([(0, 700), ((-1), 700), (0, 5), (0, 700), (0, 700), (0, 255), (0, 700), ((-2147483648), 2147483647), (0, 1), (0, 9)], [])
def hp_149 : eH := [.inl (4, [(2, 1, 0, 0), (2, 2, 0, 0), (0, 4097, 0, 700), (0, 12289, (-1), 700), (0, 20481, 0, 5), (0, 28673, 0, 700), (0, 36865, 0, 700), (0, 45057, 0, 255), (0, 53249, 0, 700), (0, 61441, (-2147483648), 2147483647), (0, 69633, 0, 1)]), fr9 1, .inr (2, 700, (0, 0, (-128), 127), []), .inr (0, 10, (0, 0, 0, 9), [])]
def th_149 : List (Option eP) := [some (1, 0, 2), some (1, 0, 3), some (1, 0, 4), some (1, 0, 5), some (1, 0, 6), some (1, 0, 7), some (1, 0, 8), some (1, 0, 9), some (1, 0, 10), some (0, 2, 0)]
def os_149 : List (eO × List (Option eP)) := [((0, some (0, 86017, 0, 1), (B_149.1 ++ [(0, 1), ((-1), 700), (0, 5), (0, 700), (0, 255), (0, 700), ((-2147483648), 2147483647)], []), hS hp_149 [(0, oS hp_149 0 [(3, (0, 94209, (-1), 700)), (4, (0, 102401, 0, 5)), (6, (0, 110593, 0, 700)), (7, (0, 118785, 0, 255)), (8, (0, 126977, 0, 700)), (9, (0, 135169, (-2147483648), 2147483647))])]), nTh 10 [(0, 0, 0), (1, 0, 3), (1, 0, 4), (1, 0, 6), (1, 0, 7), (1, 0, 8), (1, 0, 9)])]
def cd_149 (φ : List Nat) : eCd := (as_149, B_149, hp_149, th_149, os_149.map (fun w => w.1), φ)
def us_149 : eUs := [(55, 33, [cd_121 [0, 1, 2]])]
def sp_149 : List (Nat × Nat) := []
def ic_149 (pc : Nat) : Bool := false
def c_149_0 : eCut := ((0, eArgs 0 as_149, [], B_149, hp_149, 0, 0), [], [(900000, 0, 0)])
def K_149 : List eCut := []
