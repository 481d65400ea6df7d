/-! ===== CONTRACTS, 32.c006 ===== -/
set_option maxRecDepth 1000000 in
theorem k_85_1 : ckM 33 sp_85 us_85 ic_85 20000 10 3 os_85 (c_85_0 :: K_85) c_85_1 = true := by decide +kernel
set_option maxRecDepth 1000000 in
theorem k_85_2 : ckM 33 sp_85 us_85 ic_85 20000 10 3 os_85 (c_85_0 :: K_85) c_85_2 = true := by decide +kernel
set_option maxRecDepth 1000000 in
theorem k_85_3 : ckM 33 sp_85 us_85 ic_85 20000 10 3 os_85 (c_85_0 :: K_85) c_85_3 = true := by decide +kernel
set_option maxRecDepth 100000 in
theorem ok_85 {l : Launch} (htr : l.stackTraces = false) {sb : eSB} (hvs : sb.1 60 = 1) {D : va_G} {cA : Nat → ClassId} : ctH l sb D cA 33 8 as_85 B_85 hp_85 (os_85.map (fun w => w.1)) := ctH_of htr hvs (M := 33) (by decide) (lev := 7) (by decide) (L := us_85) (by decide +kernel) (List.forall_mem_cons.mpr ⟨(List.forall_mem_cons.mpr ⟨(fun FR => ctH_mono (by decide) (ok_81 htr (sb := (sb.1, FR)) hvs)), (List.forall_mem_cons.mpr ⟨(fun FR => ctH_mono (by decide) (ok_81 htr (sb := (sb.1, FR)) hvs)), (List.forall_mem_cons.mpr ⟨(fun FR => ctH_mono (by decide) (ok_82 htr (sb := (sb.1, FR)) hvs)), (fun _ h => absurd h List.not_mem_nil)⟩)⟩)⟩), (List.forall_mem_cons.mpr ⟨(List.forall_mem_cons.mpr ⟨(fun FR => ctH_mono (by decide) (ok_81 htr (sb := (sb.1, FR)) hvs)), (List.forall_mem_cons.mpr ⟨(fun FR => ctH_mono (by decide) (ok_82 htr (sb := (sb.1, FR)) hvs)), (fun _ h => absurd h List.not_mem_nil)⟩)⟩), (List.forall_mem_cons.mpr ⟨(List.forall_mem_cons.mpr ⟨(fun FR => ctH_mono (by decide) (ok_83 htr (sb := (sb.1, FR)) hvs)), (List.forall_mem_cons.mpr ⟨(fun FR => ctH_mono (by decide) (ok_83 htr (sb := (sb.1, FR)) hvs)), (List.forall_mem_cons.mpr ⟨(fun FR => ctH_mono (by decide) (ok_83 htr (sb := (sb.1, FR)) hvs)), (fun _ h => absurd h List.not_mem_nil)⟩)⟩)⟩), (fun _ h => absurd h List.not_mem_nil)⟩)⟩)⟩) (n := 20000) (sp := sp_85) (isC := ic_85) (c0 := c_85_0) (K := K_85) (by decide +kernel) rfl (List.forall_mem_cons.mpr ⟨k_85_0, (List.forall_mem_cons.mpr ⟨k_85_1, (List.forall_mem_cons.mpr ⟨k_85_2, (List.forall_mem_cons.mpr ⟨k_85_3, (fun _ h => absurd h List.not_mem_nil)⟩)⟩)⟩)⟩)
/-! BalconyPort$Reader.isWord -/
def as_86 : List eV := [(2, 0, 0, 0), (5, 3, 0, 0)]
def B_86 : eB := ([(0, cmx), (0, 700), ((-1), 700), (0, 5), (0, 700), (0, 700), (0, 61), (0, 700), ((-1), 9999), (0, 1)], [(1004, 4097, 1152921508901814272, 1152921508901814272, 36865), (7, 4097, 1152921508901814272, 61441, 53249), (8, 4097, 1152921508901814272, 61441, 45057)])
def hp_86 : eH := [.inl (4, [(2, 1, 0, 0), (2, 2, 0, 0), (0, 12289, 0, 700), (0, 20481, (-1), 700), (0, 28673, 0, 5), (0, 36865, 0, 700), (0, 45057, 0, 700), (0, 53249, 0, 61), (0, 61441, 0, 700), (0, 69633, (-1), 9999), (0, 77825, 0, 1)]), fr9 1, .inr (10, 700, (eI 0), [(0, (0, 4097, 0, cmx))])]
def th_86 : List (Option eP) := [some (3, 0, 0), some (1, 0, 2), some (1, 0, 3), some (1, 0, 4), some (1, 0, 5), some (1, 0, 6), some (1, 0, 7), some (1, 0, 8), some (1, 0, 9), some (1, 0, 10)]
def os_86 : List (eO × List (Option eP)) := [((0, some (eI 0), (B_86.1, [(13, 4097, 1152921508901814272, 61441, 1152921508901814272)]), hp_86), nTh 10 []), ((0, some (eI 1), (bS B_86.1 [(4, 7, 700), (6, 1, 1), (7, 0, 693)], [(13, 4097, 1152921508901814272, 61441, 1152921508901814273)]), hS hp_86 [(0, oS hp_86 0 [(5, (0, 36865, 7, 700)), (7, (0, 53249, 1, 1)), (8, (0, 61441, 0, 693))])]), nTh 10 [])]
def cd_86 (φ : List Nat) : eCd := (as_86, B_86, hp_86, th_86, os_86.map (fun w => w.1), φ)
def gd_86 (th : List (Option eP)) (φ : List Nat) : eCd := (as_86, B_86, hp_86, th, os_86.map (fun w => w.1), φ)
def us_86 : eUs := [(42, 49, [gd_82 [some (3, 4096, 0), some (1, 0, 2), some (1, 0, 3), some (1, 0, 4), some (1, 0, 5), some (1, 0, 6), some (1, 0, 7), some (1, 0, 8), some (1, 0, 9), some (1, 0, 10), some (0, 1, 0)] [0, 1, 2]])]
def sp_86 : List (Nat × Nat) := [(21, 999999)]
def ic_86 (pc : Nat) : Bool := false
def c_86_0 : eCut := ((0, eArgs 0 as_86, [], B_86, hp_86, 0, 0), [], [(900000, 0, 0)])
def K_86 : List eCut := []
set_option maxRecDepth 1000000 in
theorem k_86_0 : ckM 32 sp_86 us_86 ic_86 20000 10 3 os_86 (c_86_0 :: K_86) c_86_0 = true := by decide +kernel
set_option maxRecDepth 100000 in
theorem ok_86 {l : Launch} (htr : l.stackTraces = false) {sb : eSB} (hvs : sb.1 60 = 1) {D : va_G} {cA : Nat → ClassId} : ctH l sb D cA 32 7 as_86 B_86 hp_86 (os_86.map (fun w => w.1)) := ctH_of htr hvs (M := 32) (by decide) (lev := 6) (by decide) (L := us_86) (by decide +kernel) (List.forall_mem_cons.mpr ⟨(List.forall_mem_cons.mpr ⟨(fun FR => ctH_mono (by decide) (ok_82 htr (sb := (sb.1, FR)) hvs)), (fun _ h => absurd h List.not_mem_nil)⟩), (fun _ h => absurd h List.not_mem_nil)⟩) (n := 20000) (sp := sp_86) (isC := ic_86) (c0 := c_86_0) (K := K_86) (by decide +kernel) rfl (List.forall_mem_cons.mpr ⟨k_86_0, (fun _ h => absurd h List.not_mem_nil)⟩)
/-! BalconyPort$Reader.isWord -/
def as_87 : List eV := [(2, 0, 0, 0), (5, 5, 0, 0)]
def B_87 : eB := ([(0, cmx), (0, 700), ((-1), 700), (0, 5), (0, 700), (0, 700), (0, 61), (0, 700), ((-1), 9999), (0, 1)], [(1004, 4097, 1152921508901814272, 1152921508901814272, 36865), (7, 4097, 1152921508901814272, 61441, 53249), (8, 4097, 1152921508901814272, 61441, 45057)])
def hp_87 : eH := [.inl (4, [(2, 1, 0, 0), (2, 2, 0, 0), (0, 12289, 0, 700), (0, 20481, (-1), 700), (0, 28673, 0, 5), (0, 36865, 0, 700), (0, 45057, 0, 700), (0, 53249, 0, 61), (0, 61441, 0, 700), (0, 69633, (-1), 9999), (0, 77825, 0, 1)]), fr9 1, .inr (10, 700, (eI 0), [(0, (0, 4097, 0, cmx))])]
def th_87 : List (Option eP) := [some (3, 0, 0), some (1, 0, 2), some (1, 0, 3), some (1, 0, 4), some (1, 0, 5), some (1, 0, 6), some (1, 0, 7), some (1, 0, 8), some (1, 0, 9), some (1, 0, 10)]
def os_87 : List (eO × List (Option eP)) := [((0, some (eI 0), (B_87.1, [(14, 4097, 1152921508901814272, 61441, 1152921508901814272)]), hp_87), nTh 10 []), ((0, some (eI 1), (bS B_87.1 [(4, 4, 700), (6, 1, 1), (7, 0, 696)], [(14, 4097, 1152921508901814272, 61441, 1152921508901814273)]), hS hp_87 [(0, oS hp_87 0 [(5, (0, 36865, 4, 700)), (7, (0, 53249, 1, 1)), (8, (0, 61441, 0, 696))])]), nTh 10 [])]
def cd_87 (φ : List Nat) : eCd := (as_87, B_87, hp_87, th_87, os_87.map (fun w => w.1), φ)
def gd_87 (th : List (Option eP)) (φ : List Nat) : eCd := (as_87, B_87, hp_87, th, os_87.map (fun w => w.1), φ)
def us_87 : eUs := [(42, 49, [gd_82 [some (3, 4096, 0), some (1, 0, 2), some (1, 0, 3), some (1, 0, 4), some (1, 0, 5), some (1, 0, 6), some (1, 0, 7), some (1, 0, 8), some (1, 0, 9), some (1, 0, 10), some (0, 1, 0)] [0, 1, 2]])]
def sp_87 : List (Nat × Nat) := [(21, 999999)]
def ic_87 (pc : Nat) : Bool := false
def c_87_0 : eCut := ((0, eArgs 0 as_87, [], B_87, hp_87, 0, 0), [], [(900000, 0, 0)])
def K_87 : List eCut := []
set_option maxRecDepth 1000000 in
theorem k_87_0 : ckM 32 sp_87 us_87 ic_87 20000 10 3 os_87 (c_87_0 :: K_87) c_87_0 = true := by decide +kernel
set_option maxRecDepth 100000 in
theorem ok_87 {l : Launch} (htr : l.stackTraces = false) {sb : eSB} (hvs : sb.1 60 = 1) {D : va_G} {cA : Nat → ClassId} : ctH l sb D cA 32 7 as_87 B_87 hp_87 (os_87.map (fun w => w.1)) := ctH_of htr hvs (M := 32) (by decide) (lev := 6) (by decide) (L := us_87) (by decide +kernel) (List.forall_mem_cons.mpr ⟨(List.forall_mem_cons.mpr ⟨(fun FR => ctH_mono (by decide) (ok_82 htr (sb := (sb.1, FR)) hvs)), (fun _ h => absurd h List.not_mem_nil)⟩), (fun _ h => absurd h List.not_mem_nil)⟩) (n := 20000) (sp := sp_87) (isC := ic_87) (c0 := c_87_0) (K := K_87) (by decide +kernel) rfl (List.forall_mem_cons.mpr ⟨k_87_0, (fun _ h => absurd h List.not_mem_nil)⟩)
/-! BalconyPort$Reader.isWord -/
def as_88 : List eV := [(2, 0, 0, 0), (5, 7, 0, 0)]
def B_88 : eB := ([(0, cmx), (0, 700), ((-1), 700), (0, 5), (0, 700), (0, 700), (0, 61), (0, 700), ((-1), 9999), (0, 1)], [(1004, 4097, 1152921508901814272, 1152921508901814272, 36865), (7, 4097, 1152921508901814272, 61441, 53249), (8, 4097, 1152921508901814272, 61441, 45057)])
def hp_88 : eH := [.inl (4, [(2, 1, 0, 0), (2, 2, 0, 0), (0, 12289, 0, 700), (0, 20481, (-1), 700), (0, 28673, 0, 5), (0, 36865, 0, 700), (0, 45057, 0, 700), (0, 53249, 0, 61), (0, 61441, 0, 700), (0, 69633, (-1), 9999), (0, 77825, 0, 1)]), fr9 1, .inr (10, 700, (eI 0), [(0, (0, 4097, 0, cmx))])]
def th_88 : List (Option eP) := [some (3, 0, 0), some (1, 0, 2), some (1, 0, 3), some (1, 0, 4), some (1, 0, 5), some (1, 0, 6), some (1, 0, 7), some (1, 0, 8), some (1, 0, 9), some (1, 0, 10)]
def os_88 : List (eO × List (Option eP)) := [((0, some (eI 0), (B_88.1, [(15, 4097, 1152921508901814272, 61441, 1152921508901814272)]), hp_88), nTh 10 []), ((0, some (eI 1), (bS B_88.1 [(4, 4, 700), (6, 1, 1), (7, 0, 696)], [(15, 4097, 1152921508901814272, 61441, 1152921508901814273)]), hS hp_88 [(0, oS hp_88 0 [(5, (0, 36865, 4, 700)), (7, (0, 53249, 1, 1)), (8, (0, 61441, 0, 696))])]), nTh 10 [])]
def cd_88 (φ : List Nat) : eCd := (as_88, B_88, hp_88, th_88, os_88.map (fun w => w.1), φ)
def gd_88 (th : List (Option eP)) (φ : List Nat) : eCd := (as_88, B_88, hp_88, th, os_88.map (fun w => w.1), φ)
def us_88 : eUs := [(42, 49, [gd_82 [some (3, 4096, 0), some (1, 0, 2), some (1, 0, 3), some (1, 0, 4), some (1, 0, 5), some (1, 0, 6), some (1, 0, 7), some (1, 0, 8), some (1, 0, 9), some (1, 0, 10), some (0, 1, 0)] [0, 1, 2]])]
def sp_88 : List (Nat × Nat) := [(21, 999999)]
def ic_88 (pc : Nat) : Bool := false
def c_88_0 : eCut := ((0, eArgs 0 as_88, [], B_88, hp_88, 0, 0), [], [(900000, 0, 0)])
def K_88 : List eCut := []
set_option maxRecDepth 1000000 in
theorem k_88_0 : ckM 32 sp_88 us_88 ic_88 20000 10 3 os_88 (c_88_0 :: K_88) c_88_0 = true := by decide +kernel
set_option maxRecDepth 100000 in
theorem ok_88 {l : Launch} (htr : l.stackTraces = false) {sb : eSB} (hvs : sb.1 60 = 1) {D : va_G} {cA : Nat → ClassId} : ctH l sb D cA 32 7 as_88 B_88 hp_88 (os_88.map (fun w => w.1)) := ctH_of htr hvs (M := 32) (by decide) (lev := 6) (by decide) (L := us_88) (by decide +kernel) (List.forall_mem_cons.mpr ⟨(List.forall_mem_cons.mpr ⟨(fun FR => ctH_mono (by decide) (ok_82 htr (sb := (sb.1, FR)) hvs)), (fun _ h => absurd h List.not_mem_nil)⟩), (fun _ h => absurd h List.not_mem_nil)⟩) (n := 20000) (sp := sp_88) (isC := ic_88) (c0 := c_88_0) (K := K_88) (by decide +kernel) rfl (List.forall_mem_cons.mpr ⟨k_88_0, (fun _ h => absurd h List.not_mem_nil)⟩)
/-! BalconyPort$Reader.isWord -/
def as_89 : List eV := [(2, 0, 0, 0), (5, 9, 0, 0)]
def B_89 : eB := ([(0, cmx), (0, 700), ((-1), 700), (0, 5), (0, 700), (0, 700), (0, 61), (0, 700), ((-1), 9999), (0, 1)], [(1004, 4097, 1152921508901814272, 1152921508901814272, 36865), (7, 4097, 1152921508901814272, 61441, 53249), (8, 4097, 1152921508901814272, 61441, 45057)])
def hp_89 : eH := [.inl (4, [(2, 1, 0, 0), (2, 2, 0, 0), (0, 12289, 0, 700), (0, 20481, (-1), 700), (0, 28673, 0, 5), (0, 36865, 0, 700), (0, 45057, 0, 700), (0, 53249, 0, 61), (0, 61441, 0, 700), (0, 69633, (-1), 9999), (0, 77825, 0, 1)]), fr9 1, .inr (10, 700, (eI 0), [(0, (0, 4097, 0, cmx))])]
def th_89 : List (Option eP) := [some (3, 0, 0), some (1, 0, 2), some (1, 0, 3), some (1, 0, 4), some (1, 0, 5), some (1, 0, 6), some (1, 0, 7), some (1, 0, 8), some (1, 0, 9), some (1, 0, 10)]
def os_89 : List (eO × List (Option eP)) := [((0, some (eI 0), (B_89.1, [(16, 4097, 1152921508901814272, 61441, 1152921508901814272)]), hp_89), nTh 10 []), ((0, some (eI 1), (bS B_89.1 [(4, 5, 700), (6, 1, 1), (7, 0, 695)], [(16, 4097, 1152921508901814272, 61441, 1152921508901814273)]), hS hp_89 [(0, oS hp_89 0 [(5, (0, 36865, 5, 700)), (7, (0, 53249, 1, 1)), (8, (0, 61441, 0, 695))])]), nTh 10 [])]
def cd_89 (φ : List Nat) : eCd := (as_89, B_89, hp_89, th_89, os_89.map (fun w => w.1), φ)
def gd_89 (th : List (Option eP)) (φ : List Nat) : eCd := (as_89, B_89, hp_89, th, os_89.map (fun w => w.1), φ)
def us_89 : eUs := [(42, 49, [gd_82 [some (3, 4096, 0), some (1, 0, 2), some (1, 0, 3), some (1, 0, 4), some (1, 0, 5), some (1, 0, 6), some (1, 0, 7), some (1, 0, 8), some (1, 0, 9), some (1, 0, 10), some (0, 1, 0)] [0, 1, 2]])]
def sp_89 : List (Nat × Nat) := [(21, 999999)]
def ic_89 (pc : Nat) : Bool := false
def c_89_0 : eCut := ((0, eArgs 0 as_89, [], B_89, hp_89, 0, 0), [], [(900000, 0, 0)])
def K_89 : List eCut := []
set_option maxRecDepth 1000000 in
theorem k_89_0 : ckM 32 sp_89 us_89 ic_89 20000 10 3 os_89 (c_89_0 :: K_89) c_89_0 = true := by decide +kernel
set_option maxRecDepth 100000 in
theorem ok_89 {l : Launch} (htr : l.stackTraces = false) {sb : eSB} (hvs : sb.1 60 = 1) {D : va_G} {cA : Nat → ClassId} : ctH l sb D cA 32 7 as_89 B_89 hp_89 (os_89.map (fun w => w.1)) := ctH_of htr hvs (M := 32) (by decide) (lev := 6) (by decide) (L := us_89) (by decide +kernel) (List.forall_mem_cons.mpr ⟨(List.forall_mem_cons.mpr ⟨(fun FR => ctH_mono (by decide) (ok_82 htr (sb := (sb.1, FR)) hvs)), (fun _ h => absurd h List.not_mem_nil)⟩), (fun _ h => absurd h List.not_mem_nil)⟩) (n := 20000) (sp := sp_89) (isC := ic_89) (c0 := c_89_0) (K := K_89) (by decide +kernel) rfl (List.forall_mem_cons.mpr ⟨k_89_0, (fun _ h => absurd h List.not_mem_nil)⟩)
/-! BalconyPort$Reader.isWord -/
def as_90 : List eV := [(2, 0, 0, 0), (5, 11, 0, 0)]
def B_90 : eB := ([(0, cmx), (0, 700), ((-1), 700), (0, 5), (0, 700), (0, 700), (0, 61), (0, 700), ((-1), 9999), (0, 1)], [(1004, 4097, 1152921508901814272, 1152921508901814272, 36865), (7, 4097, 1152921508901814272, 61441, 53249), (8, 4097, 1152921508901814272, 61441, 45057)])
def hp_90 : eH := [.inl (4, [(2, 1, 0, 0), (2, 2, 0, 0), (0, 12289, 0, 700), (0, 20481, (-1), 700), (0, 28673, 0, 5), (0, 36865, 0, 700), (0, 45057, 0, 700), (0, 53249, 0, 61), (0, 61441, 0, 700), (0, 69633, (-1), 9999), (0, 77825, 0, 1)]), fr9 1, .inr (10, 700, (eI 0), [(0, (0, 4097, 0, cmx))])]
def th_90 : List (Option eP) := [some (3, 0, 0), some (1, 0, 2), some (1, 0, 3), some (1, 0, 4), some (1, 0, 5), some (1, 0, 6), some (1, 0, 7), some (1, 0, 8), some (1, 0, 9), some (1, 0, 10)]
def os_90 : List (eO × List (Option eP)) := [((0, some (eI 0), (B_90.1, [(17, 4097, 1152921508901814272, 61441, 1152921508901814272)]), hp_90), nTh 10 []), ((0, some (eI 1), (bS B_90.1 [(4, 4, 700), (6, 1, 1), (7, 0, 696)], [(17, 4097, 1152921508901814272, 61441, 1152921508901814273)]), hS hp_90 [(0, oS hp_90 0 [(5, (0, 36865, 4, 700)), (7, (0, 53249, 1, 1)), (8, (0, 61441, 0, 696))])]), nTh 10 [])]
def cd_90 (φ : List Nat) : eCd := (as_90, B_90, hp_90, th_90, os_90.map (fun w => w.1), φ)
def gd_90 (th : List (Option eP)) (φ : List Nat) : eCd := (as_90, B_90, hp_90, th, os_90.map (fun w => w.1), φ)
def us_90 : eUs := [(42, 49, [gd_82 [some (3, 4096, 0), some (1, 0, 2), some (1, 0, 3), some (1, 0, 4), some (1, 0, 5), some (1, 0, 6), some (1, 0, 7), some (1, 0, 8), some (1, 0, 9), some (1, 0, 10), some (0, 1, 0)] [0, 1, 2]])]
def sp_90 : List (Nat × Nat) := [(21, 999999)]
def ic_90 (pc : Nat) : Bool := false
def c_90_0 : eCut := ((0, eArgs 0 as_90, [], B_90, hp_90, 0, 0), [], [(900000, 0, 0)])
def K_90 : List eCut := []
set_option maxRecDepth 1000000 in
theorem k_90_0 : ckM 32 sp_90 us_90 ic_90 20000 10 3 os_90 (c_90_0 :: K_90) c_90_0 = true := by decide +kernel
set_option maxRecDepth 100000 in
theorem ok_90 {l : Launch} (htr : l.stackTraces = false) {sb : eSB} (hvs : sb.1 60 = 1) {D : va_G} {cA : Nat → ClassId} : ctH l sb D cA 32 7 as_90 B_90 hp_90 (os_90.map (fun w => w.1)) := ctH_of htr hvs (M := 32) (by decide) (lev := 6) (by decide) (L := us_90) (by decide +kernel) (List.forall_mem_cons.mpr ⟨(List.forall_mem_cons.mpr ⟨(fun FR => ctH_mono (by decide) (ok_82 htr (sb := (sb.1, FR)) hvs)), (fun _ h => absurd h List.not_mem_nil)⟩), (fun _ h => absurd h List.not_mem_nil)⟩) (n := 20000) (sp := sp_90) (isC := ic_90) (c0 := c_90_0) (K := K_90) (by decide +kernel) rfl (List.forall_mem_cons.mpr ⟨k_90_0, (fun _ h => absurd h List.not_mem_nil)⟩)
/-! BalconyPort$Reader.isWord -/
def as_91 : List eV := [(2, 0, 0, 0), (5, 13, 0, 0)]
def B_91 : eB := ([(0, cmx), (0, 700), ((-1), 700), (0, 5), (0, 700), (0, 700), (0, 61), (0, 700), ((-1), 9999), (0, 1)], [(1004, 4097, 1152921508901814272, 1152921508901814272, 36865), (7, 4097, 1152921508901814272, 61441, 53249), (8, 4097, 1152921508901814272, 61441, 45057)])
def hp_91 : eH := [.inl (4, [(2, 1, 0, 0), (2, 2, 0, 0), (0, 12289, 0, 700), (0, 20481, (-1), 700), (0, 28673, 0, 5), (0, 36865, 0, 700), (0, 45057, 0, 700), (0, 53249, 0, 61), (0, 61441, 0, 700), (0, 69633, (-1), 9999), (0, 77825, 0, 1)]), fr9 1, .inr (10, 700, (eI 0), [(0, (0, 4097, 0, cmx))])]
def th_91 : List (Option eP) := [some (3, 0, 0), some (1, 0, 2), some (1, 0, 3), some (1, 0, 4), some (1, 0, 5), some (1, 0, 6), some (1, 0, 7), some (1, 0, 8), some (1, 0, 9), some (1, 0, 10)]
def os_91 : List (eO × List (Option eP)) := [((0, some (eI 0), (B_91.1, [(18, 4097, 1152921508901814272, 61441, 1152921508901814272)]), hp_91), nTh 10 []), ((0, some (eI 1), (bS B_91.1 [(4, 3, 700), (6, 1, 1), (7, 0, 697)], [(18, 4097, 1152921508901814272, 61441, 1152921508901814273)]), hS hp_91 [(0, oS hp_91 0 [(5, (0, 36865, 3, 700)), (7, (0, 53249, 1, 1)), (8, (0, 61441, 0, 697))])]), nTh 10 [])]
def cd_91 (φ : List Nat) : eCd := (as_91, B_91, hp_91, th_91, os_91.map (fun w => w.1), φ)
def gd_91 (th : List (Option eP)) (φ : List Nat) : eCd := (as_91, B_91, hp_91, th, os_91.map (fun w => w.1), φ)
def us_91 : eUs := [(42, 49, [gd_82 [some (3, 4096, 0), some (1, 0, 2), some (1, 0, 3), some (1, 0, 4), some (1, 0, 5), some (1, 0, 6), some (1, 0, 7), some (1, 0, 8), some (1, 0, 9), some (1, 0, 10), some (0, 1, 0)] [0, 1, 2]])]
def sp_91 : List (Nat × Nat) := [(21, 999999)]
def ic_91 (pc : Nat) : Bool := false
def c_91_0 : eCut := ((0, eArgs 0 as_91, [], B_91, hp_91, 0, 0), [], [(900000, 0, 0)])
def K_91 : List eCut := []
set_option maxRecDepth 1000000 in
theorem k_91_0 : ckM 32 sp_91 us_91 ic_91 20000 10 3 os_91 (c_91_0 :: K_91) c_91_0 = true := by decide +kernel
set_option maxRecDepth 100000 in
theorem ok_91 {l : Launch} (htr : l.stackTraces = false) {sb : eSB} (hvs : sb.1 60 = 1) {D : va_G} {cA : Nat → ClassId} : ctH l sb D cA 32 7 as_91 B_91 hp_91 (os_91.map (fun w => w.1)) := ctH_of htr hvs (M := 32) (by decide) (lev := 6) (by decide) (L := us_91) (by decide +kernel) (List.forall_mem_cons.mpr ⟨(List.forall_mem_cons.mpr ⟨(fun FR => ctH_mono (by decide) (ok_82 htr (sb := (sb.1, FR)) hvs)), (fun _ h => absurd h List.not_mem_nil)⟩), (fun _ h => absurd h List.not_mem_nil)⟩) (n := 20000) (sp := sp_91) (isC := ic_91) (c0 := c_91_0) (K := K_91) (by decide +kernel) rfl (List.forall_mem_cons.mpr ⟨k_91_0, (fun _ h => absurd h List.not_mem_nil)⟩)
/-! BalconyPort$Reader.isWord -/
def as_92 : List eV := [(2, 0, 0, 0), (5, 15, 0, 0)]
def B_92 : eB := ([(0, cmx), (0, 700), ((-1), 700), (0, 5), (0, 700), (0, 700), (0, 61), (0, 700), ((-1), 9999), (0, 1)], [(1004, 4097, 1152921508901814272, 1152921508901814272, 36865), (7, 4097, 1152921508901814272, 61441, 53249), (8, 4097, 1152921508901814272, 61441, 45057)])
def hp_92 : eH := [.inl (4, [(2, 1, 0, 0), (2, 2, 0, 0), (0, 12289, 0, 700), (0, 20481, (-1), 700), (0, 28673, 0, 5), (0, 36865, 0, 700), (0, 45057, 0, 700), (0, 53249, 0, 61), (0, 61441, 0, 700), (0, 69633, (-1), 9999), (0, 77825, 0, 1)]), fr9 1, .inr (10, 700, (eI 0), [(0, (0, 4097, 0, cmx))])]
def th_92 : List (Option eP) := [some (3, 0, 0), some (1, 0, 2), some (1, 0, 3), some (1, 0, 4), some (1, 0, 5), some (1, 0, 6), some (1, 0, 7), some (1, 0, 8), some (1, 0, 9), some (1, 0, 10)]
def os_92 : List (eO × List (Option eP)) := [((0, some (eI 0), (B_92.1, [(21, 4097, 1152921508901814272, 61441, 1152921508901814272)]), hp_92), nTh 10 []), ((0, some (eI 1), (bS B_92.1 [(4, 4, 700), (6, 1, 1), (7, 0, 696)], [(21, 4097, 1152921508901814272, 61441, 1152921508901814273)]), hS hp_92 [(0, oS hp_92 0 [(5, (0, 36865, 4, 700)), (7, (0, 53249, 1, 1)), (8, (0, 61441, 0, 696))])]), nTh 10 [])]
def cd_92 (φ : List Nat) : eCd := (as_92, B_92, hp_92, th_92, os_92.map (fun w => w.1), φ)
def gd_92 (th : List (Option eP)) (φ : List Nat) : eCd := (as_92, B_92, hp_92, th, os_92.map (fun w => w.1), φ)
def us_92 : eUs := [(42, 49, [gd_82 [some (3, 4096, 0), some (1, 0, 2), some (1, 0, 3), some (1, 0, 4), some (1, 0, 5), some (1, 0, 6), some (1, 0, 7), some (1, 0, 8), some (1, 0, 9), some (1, 0, 10), some (0, 1, 0)] [0, 1, 2]])]
def sp_92 : List (Nat × Nat) := [(21, 999999)]
def ic_92 (pc : Nat) : Bool := false
def c_92_0 : eCut := ((0, eArgs 0 as_92, [], B_92, hp_92, 0, 0), [], [(900000, 0, 0)])
def K_92 : List eCut := []
set_option maxRecDepth 1000000 in
theorem k_92_0 : ckM 32 sp_92 us_92 ic_92 20000 10 3 os_92 (c_92_0 :: K_92) c_92_0 = true := by decide +kernel
set_option maxRecDepth 100000 in
theorem ok_92 {l : Launch} (htr : l.stackTraces = false) {sb : eSB} (hvs : sb.1 60 = 1) {D : va_G} {cA : Nat → ClassId} : ctH l sb D cA 32 7 as_92 B_92 hp_92 (os_92.map (fun w => w.1)) := ctH_of htr hvs (M := 32) (by decide) (lev := 6) (by decide) (L := us_92) (by decide +kernel) (List.forall_mem_cons.mpr ⟨(List.forall_mem_cons.mpr ⟨(fun FR => ctH_mono (by decide) (ok_82 htr (sb := (sb.1, FR)) hvs)), (fun _ h => absurd h List.not_mem_nil)⟩), (fun _ h => absurd h List.not_mem_nil)⟩) (n := 20000) (sp := sp_92) (isC := ic_92) (c0 := c_92_0) (K := K_92) (by decide +kernel) rfl (List.forall_mem_cons.mpr ⟨k_92_0, (fun _ h => absurd h List.not_mem_nil)⟩)
/-! BalconyPort$Reader.isWord -/
def as_93 : List eV := [(2, 0, 0, 0), (5, 17, 0, 0)]
def B_93 : eB := ([(0, cmx), (0, 700), ((-1), 700), (0, 5), (0, 700), (0, 700), (0, 61), (0, 700), ((-1), 9999), (0, 1)], [(1004, 4097, 1152921508901814272, 1152921508901814272, 36865), (7, 4097, 1152921508901814272, 61441, 53249), (8, 4097, 1152921508901814272, 61441, 45057)])
def hp_93 : eH := [.inl (4, [(2, 1, 0, 0), (2, 2, 0, 0), (0, 12289, 0, 700), (0, 20481, (-1), 700), (0, 28673, 0, 5), (0, 36865, 0, 700), (0, 45057, 0, 700), (0, 53249, 0, 61), (0, 61441, 0, 700), (0, 69633, (-1), 9999), (0, 77825, 0, 1)]), fr9 1, .inr (10, 700, (eI 0), [(0, (0, 4097, 0, cmx))])]
def th_93 : List (Option eP) := [some (3, 0, 0), some (1, 0, 2), some (1, 0, 3), some (1, 0, 4), some (1, 0, 5), some (1, 0, 6), some (1, 0, 7), some (1, 0, 8), some (1, 0, 9), some (1, 0, 10)]
def os_93 : List (eO × List (Option eP)) := [((0, some (eI 0), (B_93.1, [(22, 4097, 1152921508901814272, 61441, 1152921508901814272)]), hp_93), nTh 10 []), ((0, some (eI 1), (bS B_93.1 [(4, 4, 700), (6, 1, 1), (7, 0, 696)], [(22, 4097, 1152921508901814272, 61441, 1152921508901814273)]), hS hp_93 [(0, oS hp_93 0 [(5, (0, 36865, 4, 700)), (7, (0, 53249, 1, 1)), (8, (0, 61441, 0, 696))])]), nTh 10 [])]
def cd_93 (φ : List Nat) : eCd := (as_93, B_93, hp_93, th_93, os_93.map (fun w => w.1), φ)
def gd_93 (th : List (Option eP)) (φ : List Nat) : eCd := (as_93, B_93, hp_93, th, os_93.map (fun w => w.1), φ)
def us_93 : eUs := [(42, 49, [gd_82 [some (3, 4096, 0), some (1, 0, 2), some (1, 0, 3), some (1, 0, 4), some (1, 0, 5), some (1, 0, 6), some (1, 0, 7), some (1, 0, 8), some (1, 0, 9), some (1, 0, 10), some (0, 1, 0)] [0, 1, 2]])]
def sp_93 : List (Nat × Nat) := [(21, 999999)]
def ic_93 (pc : Nat) : Bool := false
def c_93_0 : eCut := ((0, eArgs 0 as_93, [], B_93, hp_93, 0, 0), [], [(900000, 0, 0)])
def K_93 : List eCut := []
set_option maxRecDepth 1000000 in
theorem k_93_0 : ckM 32 sp_93 us_93 ic_93 20000 10 3 os_93 (c_93_0 :: K_93) c_93_0 = true := by decide +kernel
set_option maxRecDepth 100000 in
theorem ok_93 {l : Launch} (htr : l.stackTraces = false) {sb : eSB} (hvs : sb.1 60 = 1) {D : va_G} {cA : Nat → ClassId} : ctH l sb D cA 32 7 as_93 B_93 hp_93 (os_93.map (fun w => w.1)) := ctH_of htr hvs (M := 32) (by decide) (lev := 6) (by decide) (L := us_93) (by decide +kernel) (List.forall_mem_cons.mpr ⟨(List.forall_mem_cons.mpr ⟨(fun FR => ctH_mono (by decide) (ok_82 htr (sb := (sb.1, FR)) hvs)), (fun _ h => absurd h List.not_mem_nil)⟩), (fun _ h => absurd h List.not_mem_nil)⟩) (n := 20000) (sp := sp_93) (isC := ic_93) (c0 := c_93_0) (K := K_93) (by decide +kernel) rfl (List.forall_mem_cons.mpr ⟨k_93_0, (fun _ h => absurd h List.not_mem_nil)⟩)
/-! BalconyPort$Reader.isWord -/
def as_94 : List eV := [(2, 0, 0, 0), (5, 19, 0, 0)]
def B_94 : eB := ([(0, cmx), (0, 700), ((-1), 700), (0, 5), (0, 700), (0, 700), (0, 61), (0, 700), ((-1), 9999), (0, 1)], [(1004, 4097, 1152921508901814272, 1152921508901814272, 36865), (7, 4097, 1152921508901814272, 61441, 53249), (8, 4097, 1152921508901814272, 61441, 45057)])
def hp_94 : eH := [.inl (4, [(2, 1, 0, 0), (2, 2, 0, 0), (0, 12289, 0, 700), (0, 20481, (-1), 700), (0, 28673, 0, 5), (0, 36865, 0, 700), (0, 45057, 0, 700), (0, 53249, 0, 61), (0, 61441, 0, 700), (0, 69633, (-1), 9999), (0, 77825, 0, 1)]), fr9 1, .inr (10, 700, (eI 0), [(0, (0, 4097, 0, cmx))])]
def th_94 : List (Option eP) := [some (3, 0, 0), some (1, 0, 2), some (1, 0, 3), some (1, 0, 4), some (1, 0, 5), some (1, 0, 6), some (1, 0, 7), some (1, 0, 8), some (1, 0, 9), some (1, 0, 10)]
def os_94 : List (eO × List (Option eP)) := [((0, some (eI 0), (B_94.1, [(23, 4097, 1152921508901814272, 61441, 1152921508901814272)]), hp_94), nTh 10 []), ((0, some (eI 1), (bS B_94.1 [(4, 4, 700), (6, 1, 1), (7, 0, 696)], [(23, 4097, 1152921508901814272, 61441, 1152921508901814273)]), hS hp_94 [(0, oS hp_94 0 [(5, (0, 36865, 4, 700)), (7, (0, 53249, 1, 1)), (8, (0, 61441, 0, 696))])]), nTh 10 [])]
def cd_94 (φ : List Nat) : eCd := (as_94, B_94, hp_94, th_94, os_94.map (fun w => w.1), φ)
def gd_94 (th : List (Option eP)) (φ : List Nat) : eCd := (as_94, B_94, hp_94, th, os_94.map (fun w => w.1), φ)
def us_94 : eUs := [(42, 49, [gd_82 [some (3, 4096, 0), some (1, 0, 2), some (1, 0, 3), some (1, 0, 4), some (1, 0, 5), some (1, 0, 6), some (1, 0, 7), some (1, 0, 8), some (1, 0, 9), some (1, 0, 10), some (0, 1, 0)] [0, 1, 2]])]
def sp_94 : List (Nat × Nat) := [(21, 999999)]
def ic_94 (pc : Nat) : Bool := false
def c_94_0 : eCut := ((0, eArgs 0 as_94, [], B_94, hp_94, 0, 0), [], [(900000, 0, 0)])
def K_94 : List eCut := []
set_option maxRecDepth 1000000 in
theorem k_94_0 : ckM 32 sp_94 us_94 ic_94 20000 10 3 os_94 (c_94_0 :: K_94) c_94_0 = true := by decide +kernel
set_option maxRecDepth 100000 in
theorem ok_94 {l : Launch} (htr : l.stackTraces = false) {sb : eSB} (hvs : sb.1 60 = 1) {D : va_G} {cA : Nat → ClassId} : ctH l sb D cA 32 7 as_94 B_94 hp_94 (os_94.map (fun w => w.1)) := ctH_of htr hvs (M := 32) (by decide) (lev := 6) (by decide) (L := us_94) (by decide +kernel) (List.forall_mem_cons.mpr ⟨(List.forall_mem_cons.mpr ⟨(fun FR => ctH_mono (by decide) (ok_82 htr (sb := (sb.1, FR)) hvs)), (fun _ h => absurd h List.not_mem_nil)⟩), (fun _ h => absurd h List.not_mem_nil)⟩) (n := 20000) (sp := sp_94) (isC := ic_94) (c0 := c_94_0) (K := K_94) (by decide +kernel) rfl (List.forall_mem_cons.mpr ⟨k_94_0, (fun _ h => absurd h List.not_mem_nil)⟩)
/-! BalconyPort$Reader.isWord -/
def as_95 : List eV := [(2, 0, 0, 0), (5, 21, 0, 0)]
def B_95 : eB := ([(0, cmx), (0, 700), ((-1), 700), (0, 5), (0, 700), (0, 700), (0, 61), (0, 700), ((-1), 9999), (0, 1)], [(1004, 4097, 1152921508901814272, 1152921508901814272, 36865), (7, 4097, 1152921508901814272, 61441, 53249), (8, 4097, 1152921508901814272, 61441, 45057)])
def hp_95 : eH := [.inl (4, [(2, 1, 0, 0), (2, 2, 0, 0), (0, 12289, 0, 700), (0, 20481, (-1), 700), (0, 28673, 0, 5), (0, 36865, 0, 700), (0, 45057, 0, 700), (0, 53249, 0, 61), (0, 61441, 0, 700), (0, 69633, (-1), 9999), (0, 77825, 0, 1)]), fr9 1, .inr (10, 700, (eI 0), [(0, (0, 4097, 0, cmx))])]
def th_95 : List (Option eP) := [some (3, 0, 0), some (1, 0, 2), some (1, 0, 3), some (1, 0, 4), some (1, 0, 5), some (1, 0, 6), some (1, 0, 7), some (1, 0, 8), some (1, 0, 9), some (1, 0, 10)]
def os_95 : List (eO × List (Option eP)) := [((0, some (eI 0), (B_95.1, [(24, 4097, 1152921508901814272, 61441, 1152921508901814272)]), hp_95), nTh 10 []), ((0, some (eI 1), (bS B_95.1 [(4, 6, 700), (6, 1, 1), (7, 0, 694)], [(24, 4097, 1152921508901814272, 61441, 1152921508901814273)]), hS hp_95 [(0, oS hp_95 0 [(5, (0, 36865, 6, 700)), (7, (0, 53249, 1, 1)), (8, (0, 61441, 0, 694))])]), nTh 10 [])]
def cd_95 (φ : List Nat) : eCd := (as_95, B_95, hp_95, th_95, os_95.map (fun w => w.1), φ)
def gd_95 (th : List (Option eP)) (φ : List Nat) : eCd := (as_95, B_95, hp_95, th, os_95.map (fun w => w.1), φ)
def us_95 : eUs := [(42, 49, [gd_82 [some (3, 4096, 0), some (1, 0, 2), some (1, 0, 3), some (1, 0, 4), some (1, 0, 5), some (1, 0, 6), some (1, 0, 7), some (1, 0, 8), some (1, 0, 9), some (1, 0, 10), some (0, 1, 0)] [0, 1, 2]])]
def sp_95 : List (Nat × Nat) := [(21, 999999)]
def ic_95 (pc : Nat) : Bool := false
def c_95_0 : eCut := ((0, eArgs 0 as_95, [], B_95, hp_95, 0, 0), [], [(900000, 0, 0)])
def K_95 : List eCut := []
set_option maxRecDepth 1000000 in
theorem k_95_0 : ckM 32 sp_95 us_95 ic_95 20000 10 3 os_95 (c_95_0 :: K_95) c_95_0 = true := by decide +kernel
set_option maxRecDepth 100000 in
theorem ok_95 {l : Launch} (htr : l.stackTraces = false) {sb : eSB} (hvs : sb.1 60 = 1) {D : va_G} {cA : Nat → ClassId} : ctH l sb D cA 32 7 as_95 B_95 hp_95 (os_95.map (fun w => w.1)) := ctH_of htr hvs (M := 32) (by decide) (lev := 6) (by decide) (L := us_95) (by decide +kernel) (List.forall_mem_cons.mpr ⟨(List.forall_mem_cons.mpr ⟨(fun FR => ctH_mono (by decide) (ok_82 htr (sb := (sb.1, FR)) hvs)), (fun _ h => absurd h List.not_mem_nil)⟩), (fun _ h => absurd h List.not_mem_nil)⟩) (n := 20000) (sp := sp_95) (isC := ic_95) (c0 := c_95_0) (K := K_95) (by decide +kernel) rfl (List.forall_mem_cons.mpr ⟨k_95_0, (fun _ h => absurd h List.not_mem_nil)⟩)
/-! BalconyPort$Reader.isWord -/
def as_96 : List eV := [(2, 0, 0, 0), (5, 23, 0, 0)]
def B_96 : eB := ([(0, cmx), (0, 700), ((-1), 700), (0, 5), (0, 700), (0, 700), (0, 61), (0, 700), ((-1), 9999), (0, 1)], [(1004, 4097, 1152921508901814272, 1152921508901814272, 36865), (7, 4097, 1152921508901814272, 61441, 53249), (8, 4097, 1152921508901814272, 61441, 45057)])
def hp_96 : eH := [.inl (4, [(2, 1, 0, 0), (2, 2, 0, 0), (0, 12289, 0, 700), (0, 20481, (-1), 700), (0, 28673, 0, 5), (0, 36865, 0, 700), (0, 45057, 0, 700), (0, 53249, 0, 61), (0, 61441, 0, 700), (0, 69633, (-1), 9999), (0, 77825, 0, 1)]), fr9 1, .inr (10, 700, (eI 0), [(0, (0, 4097, 0, cmx))])]
def th_96 : List (Option eP) := [some (3, 0, 0), some (1, 0, 2), some (1, 0, 3), some (1, 0, 4), some (1, 0, 5), some (1, 0, 6), some (1, 0, 7), some (1, 0, 8), some (1, 0, 9), some (1, 0, 10)]
def os_96 : List (eO × List (Option eP)) := [((0, some (eI 0), (B_96.1, [(25, 4097, 1152921508901814272, 61441, 1152921508901814272)]), hp_96), nTh 10 []), ((0, some (eI 1), (bS B_96.1 [(4, 4, 700), (6, 1, 1), (7, 0, 696)], [(25, 4097, 1152921508901814272, 61441, 1152921508901814273)]), hS hp_96 [(0, oS hp_96 0 [(5, (0, 36865, 4, 700)), (7, (0, 53249, 1, 1)), (8, (0, 61441, 0, 696))])]), nTh 10 [])]
def cd_96 (φ : List Nat) : eCd := (as_96, B_96, hp_96, th_96, os_96.map (fun w => w.1), φ)
def gd_96 (th : List (Option eP)) (φ : List Nat) : eCd := (as_96, B_96, hp_96, th, os_96.map (fun w => w.1), φ)
def us_96 : eUs := [(42, 49, [gd_82 [some (3, 4096, 0), some (1, 0, 2), some (1, 0, 3), some (1, 0, 4), some (1, 0, 5), some (1, 0, 6), some (1, 0, 7), some (1, 0, 8), some (1, 0, 9), some (1, 0, 10), some (0, 1, 0)] [0, 1, 2]])]
def sp_96 : List (Nat × Nat) := [(21, 999999)]
def ic_96 (pc : Nat) : Bool := false
def c_96_0 : eCut := ((0, eArgs 0 as_96, [], B_96, hp_96, 0, 0), [], [(900000, 0, 0)])
def K_96 : List eCut := []
set_option maxRecDepth 1000000 in
theorem k_96_0 : ckM 32 sp_96 us_96 ic_96 20000 10 3 os_96 (c_96_0 :: K_96) c_96_0 = true := by decide +kernel
set_option maxRecDepth 100000 in
theorem ok_96 {l : Launch} (htr : l.stackTraces = false) {sb : eSB} (hvs : sb.1 60 = 1) {D : va_G} {cA : Nat → ClassId} : ctH l sb D cA 32 7 as_96 B_96 hp_96 (os_96.map (fun w => w.1)) := ctH_of htr hvs (M := 32) (by decide) (lev := 6) (by decide) (L := us_96) (by decide +kernel) (List.forall_mem_cons.mpr ⟨(List.forall_mem_cons.mpr ⟨(fun FR => ctH_mono (by decide) (ok_82 htr (sb := (sb.1, FR)) hvs)), (fun _ h => absurd h List.not_mem_nil)⟩), (fun _ h => absurd h List.not_mem_nil)⟩) (n := 20000) (sp := sp_96) (isC := ic_96) (c0 := c_96_0) (K := K_96) (by decide +kernel) rfl (List.forall_mem_cons.mpr ⟨k_96_0, (fun _ h => absurd h List.not_mem_nil)⟩)
/-! BalconyPort$Reader.isWord -/
def as_97 : List eV := [(2, 0, 0, 0), (5, 25, 0, 0)]
def B_97 : eB := ([(0, cmx), (0, 700), ((-1), 700), (0, 5), (0, 700), (0, 700), (0, 61), (0, 700), ((-1), 9999), (0, 1)], [(1004, 4097, 1152921508901814272, 1152921508901814272, 36865), (7, 4097, 1152921508901814272, 61441, 53249), (8, 4097, 1152921508901814272, 61441, 45057)])
def hp_97 : eH := [.inl (4, [(2, 1, 0, 0), (2, 2, 0, 0), (0, 12289, 0, 700), (0, 20481, (-1), 700), (0, 28673, 0, 5), (0, 36865, 0, 700), (0, 45057, 0, 700), (0, 53249, 0, 61), (0, 61441, 0, 700), (0, 69633, (-1), 9999), (0, 77825, 0, 1)]), fr9 1, .inr (10, 700, (eI 0), [(0, (0, 4097, 0, cmx))])]
def th_97 : List (Option eP) := [some (3, 0, 0), some (1, 0, 2), some (1, 0, 3), some (1, 0, 4), some (1, 0, 5), some (1, 0, 6), some (1, 0, 7), some (1, 0, 8), some (1, 0, 9), some (1, 0, 10)]
def os_97 : List (eO × List (Option eP)) := [((0, some (eI 0), (B_97.1, [(26, 4097, 1152921508901814272, 61441, 1152921508901814272)]), hp_97), nTh 10 []), ((0, some (eI 1), (bS B_97.1 [(4, 3, 700), (6, 1, 1), (7, 0, 697)], [(26, 4097, 1152921508901814272, 61441, 1152921508901814273)]), hS hp_97 [(0, oS hp_97 0 [(5, (0, 36865, 3, 700)), (7, (0, 53249, 1, 1)), (8, (0, 61441, 0, 697))])]), nTh 10 [])]
def cd_97 (φ : List Nat) : eCd := (as_97, B_97, hp_97, th_97, os_97.map (fun w => w.1), φ)
def gd_97 (th : List (Option eP)) (φ : List Nat) : eCd := (as_97, B_97, hp_97, th, os_97.map (fun w => w.1), φ)
def us_97 : eUs := [(42, 49, [gd_82 [some (3, 4096, 0), some (1, 0, 2), some (1, 0, 3), some (1, 0, 4), some (1, 0, 5), some (1, 0, 6), some (1, 0, 7), some (1, 0, 8), some (1, 0, 9), some (1, 0, 10), some (0, 1, 0)] [0, 1, 2]])]
def sp_97 : List (Nat × Nat) := [(21, 999999)]
def ic_97 (pc : Nat) : Bool := false
def c_97_0 : eCut := ((0, eArgs 0 as_97, [], B_97, hp_97, 0, 0), [], [(900000, 0, 0)])
def K_97 : List eCut := []
set_option maxRecDepth 1000000 in
theorem k_97_0 : ckM 32 sp_97 us_97 ic_97 20000 10 3 os_97 (c_97_0 :: K_97) c_97_0 = true := by decide +kernel
set_option maxRecDepth 100000 in
theorem ok_97 {l : Launch} (htr : l.stackTraces = false) {sb : eSB} (hvs : sb.1 60 = 1) {D : va_G} {cA : Nat → ClassId} : ctH l sb D cA 32 7 as_97 B_97 hp_97 (os_97.map (fun w => w.1)) := ctH_of htr hvs (M := 32) (by decide) (lev := 6) (by decide) (L := us_97) (by decide +kernel) (List.forall_mem_cons.mpr ⟨(List.forall_mem_cons.mpr ⟨(fun FR => ctH_mono (by decide) (ok_82 htr (sb := (sb.1, FR)) hvs)), (fun _ h => absurd h List.not_mem_nil)⟩), (fun _ h => absurd h List.not_mem_nil)⟩) (n := 20000) (sp := sp_97) (isC := ic_97) (c0 := c_97_0) (K := K_97) (by decide +kernel) rfl (List.forall_mem_cons.mpr ⟨k_97_0, (fun _ h => absurd h List.not_mem_nil)⟩)
/-! BalconyPort$Reader.isWord -/
def as_98 : List eV := [(2, 0, 0, 0), (5, 27, 0, 0)]
def B_98 : eB := ([(0, cmx), (0, 700), ((-1), 700), (0, 5), (0, 700), (0, 700), (0, 61), (0, 700), ((-1), 9999), (0, 1)], [(1004, 4097, 1152921508901814272, 1152921508901814272, 36865), (7, 4097, 1152921508901814272, 61441, 53249), (8, 4097, 1152921508901814272, 61441, 45057)])
def hp_98 : eH := [.inl (4, [(2, 1, 0, 0), (2, 2, 0, 0), (0, 12289, 0, 700), (0, 20481, (-1), 700), (0, 28673, 0, 5), (0, 36865, 0, 700), (0, 45057, 0, 700), (0, 53249, 0, 61), (0, 61441, 0, 700), (0, 69633, (-1), 9999), (0, 77825, 0, 1)]), fr9 1, .inr (10, 700, (eI 0), [(0, (0, 4097, 0, cmx))])]
def th_98 : List (Option eP) := [some (3, 0, 0), some (1, 0, 2), some (1, 0, 3), some (1, 0, 4), some (1, 0, 5), some (1, 0, 6), some (1, 0, 7), some (1, 0, 8), some (1, 0, 9), some (1, 0, 10)]
def os_98 : List (eO × List (Option eP)) := [((0, some (eI 0), (B_98.1, [(19, 4097, 1152921508901814272, 61441, 1152921508901814272)]), hp_98), nTh 10 []), ((0, some (eI 1), (bS B_98.1 [(4, 3, 700), (6, 1, 1), (7, 0, 697)], [(19, 4097, 1152921508901814272, 61441, 1152921508901814273)]), hS hp_98 [(0, oS hp_98 0 [(5, (0, 36865, 3, 700)), (7, (0, 53249, 1, 1)), (8, (0, 61441, 0, 697))])]), nTh 10 [])]
def cd_98 (φ : List Nat) : eCd := (as_98, B_98, hp_98, th_98, os_98.map (fun w => w.1), φ)
def gd_98 (th : List (Option eP)) (φ : List Nat) : eCd := (as_98, B_98, hp_98, th, os_98.map (fun w => w.1), φ)
def us_98 : eUs := [(42, 49, [gd_82 [some (3, 4096, 0), some (1, 0, 2), some (1, 0, 3), some (1, 0, 4), some (1, 0, 5), some (1, 0, 6), some (1, 0, 7), some (1, 0, 8), some (1, 0, 9), some (1, 0, 10), some (0, 1, 0)] [0, 1, 2]])]
def sp_98 : List (Nat × Nat) := [(21, 999999)]
def ic_98 (pc : Nat) : Bool := false
def c_98_0 : eCut := ((0, eArgs 0 as_98, [], B_98, hp_98, 0, 0), [], [(900000, 0, 0)])
def K_98 : List eCut := []
set_option maxRecDepth 1000000 in
theorem k_98_0 : ckM 32 sp_98 us_98 ic_98 20000 10 3 os_98 (c_98_0 :: K_98) c_98_0 = true := by decide +kernel
set_option maxRecDepth 100000 in
theorem ok_98 {l : Launch} (htr : l.stackTraces = false) {sb : eSB} (hvs : sb.1 60 = 1) {D : va_G} {cA : Nat → ClassId} : ctH l sb D cA 32 7 as_98 B_98 hp_98 (os_98.map (fun w => w.1)) := ctH_of htr hvs (M := 32) (by decide) (lev := 6) (by decide) (L := us_98) (by decide +kernel) (List.forall_mem_cons.mpr ⟨(List.forall_mem_cons.mpr ⟨(fun FR => ctH_mono (by decide) (ok_82 htr (sb := (sb.1, FR)) hvs)), (fun _ h => absurd h List.not_mem_nil)⟩), (fun _ h => absurd h List.not_mem_nil)⟩) (n := 20000) (sp := sp_98) (isC := ic_98) (c0 := c_98_0) (K := K_98) (by decide +kernel) rfl (List.forall_mem_cons.mpr ⟨k_98_0, (fun _ h => absurd h List.not_mem_nil)⟩)
/-! BalconyPort$Reader.isWord -/
def as_99 : List eV := [(2, 0, 0, 0), (5, 29, 0, 0)]
def B_99 : eB := ([(0, cmx), (0, 700), ((-1), 700), (0, 5), (0, 700), (0, 700), (0, 61), (0, 700), ((-1), 9999), (0, 1)], [(1004, 4097, 1152921508901814272, 1152921508901814272, 36865), (7, 4097, 1152921508901814272, 61441, 53249), (8, 4097, 1152921508901814272, 61441, 45057)])
def hp_99 : eH := [.inl (4, [(2, 1, 0, 0), (2, 2, 0, 0), (0, 12289, 0, 700), (0, 20481, (-1), 700), (0, 28673, 0, 5), (0, 36865, 0, 700), (0, 45057, 0, 700), (0, 53249, 0, 61), (0, 61441, 0, 700), (0, 69633, (-1), 9999), (0, 77825, 0, 1)]), fr9 1, .inr (10, 700, (eI 0), [(0, (0, 4097, 0, cmx))])]
def th_99 : List (Option eP) := [some (3, 0, 0), some (1, 0, 2), some (1, 0, 3), some (1, 0, 4), some (1, 0, 5), some (1, 0, 6), some (1, 0, 7), some (1, 0, 8), some (1, 0, 9), some (1, 0, 10)]
def os_99 : List (eO × List (Option eP)) := [((0, some (eI 0), (B_99.1, [(20, 4097, 1152921508901814272, 61441, 1152921508901814272)]), hp_99), nTh 10 []), ((0, some (eI 1), (bS B_99.1 [(4, 2, 700), (6, 1, 1), (7, 0, 698)], [(20, 4097, 1152921508901814272, 61441, 1152921508901814273)]), hS hp_99 [(0, oS hp_99 0 [(5, (0, 36865, 2, 700)), (7, (0, 53249, 1, 1)), (8, (0, 61441, 0, 698))])]), nTh 10 [])]
def cd_99 (φ : List Nat) : eCd := (as_99, B_99, hp_99, th_99, os_99.map (fun w => w.1), φ)
def gd_99 (th : List (Option eP)) (φ : List Nat) : eCd := (as_99, B_99, hp_99, th, os_99.map (fun w => w.1), φ)
def us_99 : eUs := [(42, 49, [gd_82 [some (3, 4096, 0), some (1, 0, 2), some (1, 0, 3), some (1, 0, 4), some (1, 0, 5), some (1, 0, 6), some (1, 0, 7), some (1, 0, 8), some (1, 0, 9), some (1, 0, 10), some (0, 1, 0)] [0, 1, 2]])]
def sp_99 : List (Nat × Nat) := [(21, 999999)]
def ic_99 (pc : Nat) : Bool := false
def c_99_0 : eCut := ((0, eArgs 0 as_99, [], B_99, hp_99, 0, 0), [], [(900000, 0, 0)])
def K_99 : List eCut := []
set_option maxRecDepth 1000000 in
theorem k_99_0 : ckM 32 sp_99 us_99 ic_99 20000 10 3 os_99 (c_99_0 :: K_99) c_99_0 = true := by decide +kernel
set_option maxRecDepth 100000 in
theorem ok_99 {l : Launch} (htr : l.stackTraces = false) {sb : eSB} (hvs : sb.1 60 = 1) {D : va_G} {cA : Nat → ClassId} : ctH l sb D cA 32 7 as_99 B_99 hp_99 (os_99.map (fun w => w.1)) := ctH_of htr hvs (M := 32) (by decide) (lev := 6) (by decide) (L := us_99) (by decide +kernel) (List.forall_mem_cons.mpr ⟨(List.forall_mem_cons.mpr ⟨(fun FR => ctH_mono (by decide) (ok_82 htr (sb := (sb.1, FR)) hvs)), (fun _ h => absurd h List.not_mem_nil)⟩), (fun _ h => absurd h List.not_mem_nil)⟩) (n := 20000) (sp := sp_99) (isC := ic_99) (c0 := c_99_0) (K := K_99) (by decide +kernel) rfl (List.forall_mem_cons.mpr ⟨k_99_0, (fun _ h => absurd h List.not_mem_nil)⟩)
/-! BalconyPort$Reader.valueSign -/
def as_100 : List eV := [(2, 0, 0, 0)]
def B_100 : eB := ([(0, cmx), (0, 700), ((-1), 700), (0, 5), (0, 700), (1, 700), (0, 699), ((-1), 9999), (0, 1)], [(1004, 4097, 1152921508901814272, 1152921508901814272, 36865), (7, 4097, 1152921508901814272, 53249, 1152921508901814273), (8, 4097, 1152921508901814272, 53249, 45057), (1013, 4097, 1152921508901814273, 53249, 61441), (1, 6, 1, 5, 0)])
def hp_100 : eH := [.inl (4, [(2, 1, 0, 0), (2, 2, 0, 0), (0, 12289, 0, 700), (0, 20481, (-1), 700), (0, 28673, 0, 5), (0, 36865, 0, 700), (0, 45057, 1, 700), (eI 1), (0, 53249, 0, 699), (0, 61441, (-1), 9999), (0, 69633, 0, 1)]), fr9 1, .inr (10, 700, (eI 0), [(0, (0, 4097, 0, cmx))])]
def th_100 : List (Option eP) := [some (3, 0, 0), some (1, 0, 2), some (1, 0, 3), some (1, 0, 4), some (1, 0, 5), some (1, 0, 6), some (1, 0, 8), some (1, 0, 9), some (1, 0, 10)]
def os_100 : List (eO × List (Option eP)) := [((0, some (0, 77825, (-7), (-1)), (bS B_100.1 [(4, 3, 700), (6, 0, 697)] ++ [((-7), (-1))], [(7, 4097, 1152921508901814272, 53249, 1152921508901814273), (8, 4097, 1152921508901814272, 53249, 45057), (1013, 4097, 1152921508901814273, 53249, 61441), (1008, 4097, 1152921508901814272, 53249, 77825)]), hS hp_100 [(0, oS hp_100 0 [(5, (0, 36865, 3, 700)), (8, (0, 53249, 0, 697))])]), nTh 9 [(0, 0, 0)]), ((0, some (eI 0), (B_100.1, [(7, 4097, 1152921508901814272, 53249, 1152921508901814273), (8, 4097, 1152921508901814272, 53249, 45057), (1013, 4097, 1152921508901814273, 53249, 61441), (1008, 4097, 1152921508901814272, 53249, 1152921508901814272)]), hp_100), nTh 9 [])]
def cd_100 (φ : List Nat) : eCd := (as_100, B_100, hp_100, th_100, os_100.map (fun w => w.1), φ)
def gd_100 (th : List (Option eP)) (φ : List Nat) : eCd := (as_100, B_100, hp_100, th, os_100.map (fun w => w.1), φ)
def us_100 : eUs := [(3, 32, [gd_89 [some (3, 4096, 0), some (1, 0, 2), some (1, 0, 3), some (1, 0, 4), some (1, 0, 5), some (1, 0, 6), some (1, 0, 7), some (1, 0, 8), some (1, 0, 9), some (1, 0, 10)] [0, 1, 2]]), (14, 32, [gd_92 [some (3, 4096, 0), some (1, 0, 2), some (1, 0, 3), some (1, 0, 4), some (1, 0, 5), some (1, 0, 6), some (1, 0, 7), some (1, 0, 8), some (1, 0, 9), some (1, 0, 10)] [0, 1, 2]]), (26, 32, [gd_93 [some (3, 4096, 0), some (1, 0, 2), some (1, 0, 3), some (1, 0, 4), some (1, 0, 5), some (1, 0, 6), some (1, 0, 7), some (1, 0, 8), some (1, 0, 9), some (1, 0, 10)] [0, 1, 2]]), (38, 32, [gd_94 [some (3, 4096, 0), some (1, 0, 2), some (1, 0, 3), some (1, 0, 4), some (1, 0, 5), some (1, 0, 6), some (1, 0, 7), some (1, 0, 8), some (1, 0, 9), some (1, 0, 10)] [0, 1, 2]]), (50, 32, [gd_95 [some (3, 4096, 0), some (1, 0, 2), some (1, 0, 3), some (1, 0, 4), some (1, 0, 5), some (1, 0, 6), some (1, 0, 7), some (1, 0, 8), some (1, 0, 9), some (1, 0, 10)] [0, 1, 2]]), (62, 32, [gd_96 [some (3, 4096, 0), some (1, 0, 2), some (1, 0, 3), some (1, 0, 4), some (1, 0, 5), some (1, 0, 6), some (1, 0, 7), some (1, 0, 8), some (1, 0, 9), some (1, 0, 10)] [0, 1, 2]]), (74, 32, [gd_97 [some (3, 4096, 0), some (1, 0, 2), some (1, 0, 3), some (1, 0, 4), some (1, 0, 5), some (1, 0, 6), some (1, 0, 7), some (1, 0, 8), some (1, 0, 9), some (1, 0, 10)] [0, 1, 2]])]
def sp_100 : List (Nat × Nat) := []
def ic_100 (pc : Nat) : Bool := false
def c_100_0 : eCut := ((0, eArgs 0 as_100, [], B_100, hp_100, 0, 0), [], [(900000, 0, 0)])
def K_100 : List eCut := []
set_option maxRecDepth 1000000 in
theorem k_100_0 : ckM 52 sp_100 us_100 ic_100 20000 9 3 os_100 (c_100_0 :: K_100) c_100_0 = true := by decide +kernel
set_option maxRecDepth 100000 in
theorem ok_100 {l : Launch} (htr : l.stackTraces = false) {sb : eSB} (hvs : sb.1 60 = 1) {D : va_G} {cA : Nat → ClassId} : ctH l sb D cA 52 8 as_100 B_100 hp_100 (os_100.map (fun w => w.1)) := ctH_of htr hvs (M := 52) (by decide) (lev := 7) (by decide) (L := us_100) (by decide +kernel) (List.forall_mem_cons.mpr ⟨(List.forall_mem_cons.mpr ⟨(fun FR => ctH_mono (by decide) (ok_89 htr (sb := (sb.1, FR)) hvs)), (fun _ h => absurd h List.not_mem_nil)⟩), (List.forall_mem_cons.mpr ⟨(List.forall_mem_cons.mpr ⟨(fun FR => ctH_mono (by decide) (ok_92 htr (sb := (sb.1, FR)) hvs)), (fun _ h => absurd h List.not_mem_nil)⟩), (List.forall_mem_cons.mpr ⟨(List.forall_mem_cons.mpr ⟨(fun FR => ctH_mono (by decide) (ok_93 htr (sb := (sb.1, FR)) hvs)), (fun _ h => absurd h List.not_mem_nil)⟩), (List.forall_mem_cons.mpr ⟨(List.forall_mem_cons.mpr ⟨(fun FR => ctH_mono (by decide) (ok_94 htr (sb := (sb.1, FR)) hvs)), (fun _ h => absurd h List.not_mem_nil)⟩), (List.forall_mem_cons.mpr ⟨(List.forall_mem_cons.mpr ⟨(fun FR => ctH_mono (by decide) (ok_95 htr (sb := (sb.1, FR)) hvs)), (fun _ h => absurd h List.not_mem_nil)⟩), (List.forall_mem_cons.mpr ⟨(List.forall_mem_cons.mpr ⟨(fun FR => ctH_mono (by decide) (ok_96 htr (sb := (sb.1, FR)) hvs)), (fun _ h => absurd h List.not_mem_nil)⟩), (List.forall_mem_cons.mpr ⟨(List.forall_mem_cons.mpr ⟨(fun FR => ctH_mono (by decide) (ok_97 htr (sb := (sb.1, FR)) hvs)), (fun _ h => absurd h List.not_mem_nil)⟩), (fun _ h => absurd h List.not_mem_nil)⟩)⟩)⟩)⟩)⟩)⟩)⟩) (n := 20000) (sp := sp_100) (isC := ic_100) (c0 := c_100_0) (K := K_100) (by decide +kernel) rfl (List.forall_mem_cons.mpr ⟨k_100_0, (fun _ h => absurd h List.not_mem_nil)⟩)
/-! BalconyPort$Reader.readEnd -/
def as_101 : List eV := [(2, 0, 0, 0), (eI 59)]
def B_101 : eB := ([(0, cmx), (0, 700), ((-1), 700), (0, 5), (0, 700), (1, 700), (1, 61), (0, 699), ((-1), 9999), (0, 1)], [(1004, 4097, 1152921508901814272, 1152921508901814272, 36865), (7, 4097, 1152921508901814272, 61441, 53249), (8, 4097, 1152921508901814272, 61441, 45057), (1013, 4097, 53249, 61441, 69633), (1, 7, 1, 5, 0)])
def hp_101 : eH := [.inl (4, [(2, 1, 0, 0), (2, 2, 0, 0), (0, 12289, 0, 700), (0, 20481, (-1), 700), (0, 28673, 0, 5), (0, 36865, 0, 700), (0, 45057, 1, 700), (0, 53249, 1, 61), (0, 61441, 0, 699), (0, 69633, (-1), 9999), (0, 77825, 0, 1)]), fr9 1, .inr (10, 700, (eI 0), [(0, (0, 4097, 0, cmx))])]
def th_101 : List (Option eP) := [some (3, 0, 0), some (1, 0, 2), some (1, 0, 3), some (1, 0, 4), some (1, 0, 5), some (1, 0, 6), some (1, 0, 7), some (1, 0, 8), some (1, 0, 9), some (1, 0, 10)]
def os_101 : List (eO × List (Option eP)) := [((0, some (eI 0), (bS B_101.1 [(6, 60, 61)], [(7, 4097, 1152921508901814272, 61441, 53249), (8, 4097, 1152921508901814272, 61441, 45057), (1013, 4097, 53249, 61441, 69633), (2176, 4097, 1152921508901814273, 61441, 61441)]), hS hp_101 [(0, oS hp_101 0 [(3, (0, 61441, 0, 699)), (4, (eI 1)), (7, (0, 53249, 60, 61))])]), nTh 10 []), ((0, some (eI 0), (bS B_101.1 [(6, 1, 58)], [(7, 4097, 1152921508901814272, 61441, 53249), (8, 4097, 1152921508901814272, 61441, 45057), (1013, 4097, 53249, 61441, 69633), (2176, 4097, 1152921508901814273, 61441, 61441)]), hS hp_101 [(0, oS hp_101 0 [(3, (0, 61441, 0, 699)), (4, (eI 1)), (7, (0, 53249, 1, 58))])]), nTh 10 []), ((0, some (eI 1), (bS B_101.1 [(6, 59, 59)] ++ [(1, 700), (1, 700)], [(7, 4097, 1152921508901814272, 94209, 1152921508901814272), (8, 4097, 1152921508901814272, 94209, 86017), (1013, 4097, 1152921508901814272, 94209, 69633), (1, 7, 1, 11, 0), (176, 4097, 1152921508901814272, 61441, 94209), (11, 4097, 1152921508901814272, 61441, 94209)]), hS hp_101 [(0, oS hp_101 0 [(6, (0, 86017, 1, 700)), (7, (eI 0)), (8, (0, 94209, 1, 700))])]), nTh 10 [(1, 0, 6), (1, 0, 8)]), ((0, some (eI 1), (bS B_101.1 [(4, 2, 700), (5, 1, 699), (6, 59, 59), (7, 0, 698)] ++ [(1, 700), (1, 61), (1, 699), ((-1), 9999)], [(7, 4097, 1152921508901814272, 102401, 94209), (8, 4097, 1152921508901814272, 102401, 86017), (1013, 4097, 94209, 102401, 110593), (1, 12, 1, 10, 0), (1, 7, 1, 12, 0), (176, 4097, 1152921508901814272, 61441, 102401), (11, 4097, 1152921508901814272, 61441, 102401)]), hS hp_101 [(0, oS hp_101 0 [(5, (0, 36865, 2, 700)), (6, (0, 86017, 1, 700)), (7, (0, 94209, 1, 61)), (8, (0, 102401, 1, 699)), (9, (0, 110593, (-1), 9999))])]), nTh 10 [(1, 0, 6), (1, 0, 7), (1, 0, 8), (1, 0, 9)])]
def cd_101 (φ : List Nat) : eCd := (as_101, B_101, hp_101, th_101, os_101.map (fun w => w.1), φ)
def gd_101 (th : List (Option eP)) (φ : List Nat) : eCd := (as_101, B_101, hp_101, th, os_101.map (fun w => w.1), φ)
def us_101 : eUs := [(15, 33, [gd_85 [some (3, 4096, 0), some (1, 0, 2), some (1, 0, 3), some (1, 0, 4), some (1, 0, 5), some (1, 0, 6), some (1, 0, 7), some (1, 0, 8), some (1, 0, 9), some (1, 0, 10)] [0, 1, 2]])]
def sp_101 : List (Nat × Nat) := []
def ic_101 (pc : Nat) : Bool := false
def c_101_0 : eCut := ((0, eArgs 0 as_101, [], B_101, hp_101, 0, 0), [], [(900000, 0, 0)])
def K_101 : List eCut := []
set_option maxRecDepth 1000000 in
theorem k_101_0 : ckM 37 sp_101 us_101 ic_101 20000 10 3 os_101 (c_101_0 :: K_101) c_101_0 = true := by decide +kernel
set_option maxRecDepth 100000 in
theorem ok_101 {l : Launch} (htr : l.stackTraces = false) {sb : eSB} (hvs : sb.1 60 = 1) {D : va_G} {cA : Nat → ClassId} : ctH l sb D cA 37 9 as_101 B_101 hp_101 (os_101.map (fun w => w.1)) := ctH_of htr hvs (M := 37) (by decide) (lev := 8) (by decide) (L := us_101) (by decide +kernel) (List.forall_mem_cons.mpr ⟨(List.forall_mem_cons.mpr ⟨(fun FR => ctH_mono (by decide) (ok_85 htr (sb := (sb.1, FR)) hvs)), (fun _ h => absurd h List.not_mem_nil)⟩), (fun _ h => absurd h List.not_mem_nil)⟩) (n := 20000) (sp := sp_101) (isC := ic_101) (c0 := c_101_0) (K := K_101) (by decide +kernel) rfl (List.forall_mem_cons.mpr ⟨k_101_0, (fun _ h => absurd h List.not_mem_nil)⟩)
/-! BalconyPort$Reader.readEnd -/
def as_102 : List eV := [(2, 0, 0, 0), (eI 41)]
def B_102 : eB := ([(0, cmx), (0, 700), ((-1), 700), (0, 5), (0, 700), (1, 700), (1, 61), (0, 699), ((-1), 9999), (0, 1)], [(1004, 4097, 1152921508901814272, 1152921508901814272, 36865), (7, 4097, 1152921508901814272, 61441, 53249), (8, 4097, 1152921508901814272, 61441, 45057), (1013, 4097, 53249, 61441, 69633), (1, 7, 1, 5, 0)])
def hp_102 : eH := [.inl (4, [(2, 1, 0, 0), (2, 2, 0, 0), (0, 12289, 0, 700), (0, 20481, (-1), 700), (0, 28673, 0, 5), (0, 36865, 0, 700), (0, 45057, 1, 700), (0, 53249, 1, 61), (0, 61441, 0, 699), (0, 69633, (-1), 9999), (0, 77825, 0, 1)]), fr9 1, .inr (10, 700, (eI 0), [(0, (0, 4097, 0, cmx))])]
def th_102 : List (Option eP) := [some (3, 0, 0), some (1, 0, 2), some (1, 0, 3), some (1, 0, 4), some (1, 0, 5), some (1, 0, 6), some (1, 0, 7), some (1, 0, 8), some (1, 0, 9), some (1, 0, 10)]
def os_102 : List (eO × List (Option eP)) := [((0, some (eI 0), (bS B_102.1 [(6, 1, 40)], [(7, 4097, 1152921508901814272, 61441, 53249), (8, 4097, 1152921508901814272, 61441, 45057), (1013, 4097, 53249, 61441, 69633), (2176, 4097, 1152921508901814273, 61441, 61441)]), hS hp_102 [(0, oS hp_102 0 [(3, (0, 61441, 0, 699)), (4, (eI 1)), (7, (0, 53249, 1, 40))])]), nTh 10 []), ((0, some (eI 0), (bS B_102.1 [(6, 42, 61)], [(7, 4097, 1152921508901814272, 61441, 53249), (8, 4097, 1152921508901814272, 61441, 45057), (1013, 4097, 53249, 61441, 69633)]), hS hp_102 [(0, oS hp_102 0 [(3, (0, 61441, 0, 699)), (4, (eI 1)), (7, (0, 53249, 42, 61))])]), nTh 10 []), ((0, some (eI 1), (bS B_102.1 [(6, 41, 41)] ++ [(1, 700), (1, 700)], [(7, 4097, 1152921508901814272, 94209, 1152921508901814272), (8, 4097, 1152921508901814272, 94209, 86017), (1013, 4097, 1152921508901814272, 94209, 69633), (1, 7, 1, 11, 0), (11, 4097, 1152921508901814272, 61441, 94209)]), hS hp_102 [(0, oS hp_102 0 [(6, (0, 86017, 1, 700)), (7, (eI 0)), (8, (0, 94209, 1, 700))])]), nTh 10 [(1, 0, 6), (1, 0, 8)]), ((0, some (eI 1), (bS B_102.1 [(4, 2, 700), (5, 1, 699), (6, 41, 41), (7, 0, 698)] ++ [(1, 700), (1, 61), (1, 699), ((-1), 9999)], [(7, 4097, 1152921508901814272, 102401, 94209), (8, 4097, 1152921508901814272, 102401, 86017), (1013, 4097, 94209, 102401, 110593), (1, 12, 1, 10, 0), (1, 7, 1, 12, 0), (11, 4097, 1152921508901814272, 61441, 102401)]), hS hp_102 [(0, oS hp_102 0 [(5, (0, 36865, 2, 700)), (6, (0, 86017, 1, 700)), (7, (0, 94209, 1, 61)), (8, (0, 102401, 1, 699)), (9, (0, 110593, (-1), 9999))])]), nTh 10 [(1, 0, 6), (1, 0, 7), (1, 0, 8), (1, 0, 9)])]
def cd_102 (φ : List Nat) : eCd := (as_102, B_102, hp_102, th_102, os_102.map (fun w => w.1), φ)
def gd_102 (th : List (Option eP)) (φ : List Nat) : eCd := (as_102, B_102, hp_102, th, os_102.map (fun w => w.1), φ)
def us_102 : eUs := [(15, 33, [gd_85 [some (3, 4096, 0), some (1, 0, 2), some (1, 0, 3), some (1, 0, 4), some (1, 0, 5), some (1, 0, 6), some (1, 0, 7), some (1, 0, 8), some (1, 0, 9), some (1, 0, 10)] [0, 1, 2]])]
def sp_102 : List (Nat × Nat) := []
def ic_102 (pc : Nat) : Bool := false
def c_102_0 : eCut := ((0, eArgs 0 as_102, [], B_102, hp_102, 0, 0), [], [(900000, 0, 0)])
def K_102 : List eCut := []
set_option maxRecDepth 1000000 in
theorem k_102_0 : ckM 37 sp_102 us_102 ic_102 20000 10 3 os_102 (c_102_0 :: K_102) c_102_0 = true := by decide +kernel
set_option maxRecDepth 100000 in
theorem ok_102 {l : Launch} (htr : l.stackTraces = false) {sb : eSB} (hvs : sb.1 60 = 1) {D : va_G} {cA : Nat → ClassId} : ctH l sb D cA 37 9 as_102 B_102 hp_102 (os_102.map (fun w => w.1)) := ctH_of htr hvs (M := 37) (by decide) (lev := 8) (by decide) (L := us_102) (by decide +kernel) (List.forall_mem_cons.mpr ⟨(List.forall_mem_cons.mpr ⟨(fun FR => ctH_mono (by decide) (ok_85 htr (sb := (sb.1, FR)) hvs)), (fun _ h => absurd h List.not_mem_nil)⟩), (fun _ h => absurd h List.not_mem_nil)⟩) (n := 20000) (sp := sp_102) (isC := ic_102) (c0 := c_102_0) (K := K_102) (by decide +kernel) rfl (List.forall_mem_cons.mpr ⟨k_102_0, (fun _ h => absurd h List.not_mem_nil)⟩)
/-! BalconyPort$Reader.readEnd -/
def as_103 : List eV := [(2, 0, 0, 0), (eI 59)]
def B_103 : eB := ([(0, cmx), (0, 700), ((-1), 700), (0, 5), (0, 700), (0, 700), (0, 700), ((-1), 9999), (0, 1)], [(1004, 4097, 1152921508901814272, 1152921508901814272, 36865), (7, 4097, 1152921508901814272, 53249, 1152921508901814272), (8, 4097, 1152921508901814272, 53249, 45057), (1013, 4097, 1152921508901814272, 53249, 61441)])
def hp_103 : eH := [.inl (4, [(2, 1, 0, 0), (2, 2, 0, 0), (0, 12289, 0, 700), (0, 20481, (-1), 700), (0, 28673, 0, 5), (0, 36865, 0, 700), (0, 45057, 0, 700), (eI 0), (0, 53249, 0, 700), (0, 61441, (-1), 9999), (0, 69633, 0, 1)]), fr9 1, fr9 2]
def th_103 : List (Option eP) := [some (3, 0, 0), some (1, 0, 2), some (1, 0, 3), some (1, 0, 4), some (1, 0, 5), some (1, 0, 6), some (1, 0, 8), some (1, 0, 9), some (1, 0, 10)]
def os_103 : List (eO × List (Option eP)) := [((0, some (eI 0), (B_103.1, [(7, 4097, 1152921508901814272, 53249, 1152921508901814272), (8, 4097, 1152921508901814272, 53249, 45057), (1013, 4097, 1152921508901814272, 53249, 61441), (2176, 4097, 1152921508901814273, 53249, 53249)]), hS hp_103 [(0, oS hp_103 0 [(3, (0, 53249, 0, 700)), (4, (eI 1))])]), nTh 9 [])]
def cd_103 (φ : List Nat) : eCd := (as_103, B_103, hp_103, th_103, os_103.map (fun w => w.1), φ)
def gd_103 (th : List (Option eP)) (φ : List Nat) : eCd := (as_103, B_103, hp_103, th, os_103.map (fun w => w.1), φ)
def us_103 : eUs := []
def sp_103 : List (Nat × Nat) := []
def ic_103 (pc : Nat) : Bool := false
def c_103_0 : eCut := ((0, eArgs 0 as_103, [], B_103, hp_103, 0, 0), [], [(900000, 0, 0)])
def K_103 : List eCut := []
set_option maxRecDepth 1000000 in
theorem k_103_0 : ckM 37 sp_103 us_103 ic_103 20000 9 3 os_103 (c_103_0 :: K_103) c_103_0 = true := by decide +kernel
set_option maxRecDepth 100000 in
theorem ok_103 {l : Launch} (htr : l.stackTraces = false) {sb : eSB} (hvs : sb.1 60 = 1) {D : va_G} {cA : Nat → ClassId} : ctH l sb D cA 37 6 as_103 B_103 hp_103 (os_103.map (fun w => w.1)) := ctH_of htr hvs (M := 37) (by decide) (lev := 5) (by decide) (L := us_103) (by decide +kernel) (fun _ h => absurd h List.not_mem_nil) (n := 20000) (sp := sp_103) (isC := ic_103) (c0 := c_103_0) (K := K_103) (by decide +kernel) rfl (List.forall_mem_cons.mpr ⟨k_103_0, (fun _ h => absurd h List.not_mem_nil)⟩)
/-! BalconyPort$Reader.readEnd -/
def as_104 : List eV := [(2, 0, 0, 0), (eI 41)]
def B_104 : eB := ([(0, cmx), (0, 700), ((-1), 700), (0, 5), (0, 700), (0, 700), (0, 700), ((-1), 9999), (0, 1)], [(1004, 4097, 1152921508901814272, 1152921508901814272, 36865), (7, 4097, 1152921508901814272, 53249, 1152921508901814272), (8, 4097, 1152921508901814272, 53249, 45057), (1013, 4097, 1152921508901814272, 53249, 61441)])
def hp_104 : eH := [.inl (4, [(2, 1, 0, 0), (2, 2, 0, 0), (0, 12289, 0, 700), (0, 20481, (-1), 700), (0, 28673, 0, 5), (0, 36865, 0, 700), (0, 45057, 0, 700), (eI 0), (0, 53249, 0, 700), (0, 61441, (-1), 9999), (0, 69633, 0, 1)]), fr9 1, fr9 2]
def th_104 : List (Option eP) := [some (3, 0, 0), some (1, 0, 2), some (1, 0, 3), some (1, 0, 4), some (1, 0, 5), some (1, 0, 6), some (1, 0, 8), some (1, 0, 9), some (1, 0, 10)]
def os_104 : List (eO × List (Option eP)) := [((0, some (eI 0), (B_104.1, [(7, 4097, 1152921508901814272, 53249, 1152921508901814272), (8, 4097, 1152921508901814272, 53249, 45057), (1013, 4097, 1152921508901814272, 53249, 61441), (2176, 4097, 1152921508901814273, 53249, 53249)]), hS hp_104 [(0, oS hp_104 0 [(3, (0, 53249, 0, 700)), (4, (eI 1))])]), nTh 9 [])]
def cd_104 (φ : List Nat) : eCd := (as_104, B_104, hp_104, th_104, os_104.map (fun w => w.1), φ)
def gd_104 (th : List (Option eP)) (φ : List Nat) : eCd := (as_104, B_104, hp_104, th, os_104.map (fun w => w.1), φ)
def us_104 : eUs := []
def sp_104 : List (Nat × Nat) := []
def ic_104 (pc : Nat) : Bool := false
def c_104_0 : eCut := ((0, eArgs 0 as_104, [], B_104, hp_104, 0, 0), [], [(900000, 0, 0)])
def K_104 : List eCut := []
set_option maxRecDepth 1000000 in
theorem k_104_0 : ckM 37 sp_104 us_104 ic_104 20000 9 3 os_104 (c_104_0 :: K_104) c_104_0 = true := by decide +kernel
set_option maxRecDepth 100000 in
theorem ok_104 {l : Launch} (htr : l.stackTraces = false) {sb : eSB} (hvs : sb.1 60 = 1) {D : va_G} {cA : Nat → ClassId} : ctH l sb D cA 37 6 as_104 B_104 hp_104 (os_104.map (fun w => w.1)) := ctH_of htr hvs (M := 37) (by decide) (lev := 5) (by decide) (L := us_104) (by decide +kernel) (fun _ h => absurd h List.not_mem_nil) (n := 20000) (sp := sp_104) (isC := ic_104) (c0 := c_104_0) (K := K_104) (by decide +kernel) rfl (List.forall_mem_cons.mpr ⟨k_104_0, (fun _ h => absurd h List.not_mem_nil)⟩)
/-! BalconyPort$Reader.beginOnce -/
def as_105 : List eV := [(2, 0, 0, 0), (eI 0)]
def B_105 : eB := ([(0, cmx), (0, 700), ((-1), 700), (0, 5), (0, 700), (1, 700), (1, 61), (0, 699), ((-1), 9999), (0, 1)], [(1004, 4097, 1152921508901814272, 1152921508901814272, 36865), (7, 4097, 1152921508901814272, 61441, 53249), (8, 4097, 1152921508901814272, 61441, 45057), (1013, 4097, 53249, 61441, 69633), (1, 7, 1, 5, 0)])
def hp_105 : eH := [.inl (4, [(2, 1, 0, 0), (2, 2, 0, 0), (0, 12289, 0, 700), (0, 20481, (-1), 700), (0, 28673, 0, 5), (0, 36865, 0, 700), (0, 45057, 1, 700), (0, 53249, 1, 61), (0, 61441, 0, 699), (0, 69633, (-1), 9999), (0, 77825, 0, 1)]), fr9 1, .inr (10, 700, (eI 0), [(0, (0, 4097, 0, cmx))])]
def th_105 : List (Option eP) := [some (3, 0, 0), some (1, 0, 2), some (1, 0, 3), some (1, 0, 4), some (1, 0, 5), some (1, 0, 6), some (1, 0, 7), some (1, 0, 8), some (1, 0, 9), some (1, 0, 10)]
def os_105 : List (eO × List (Option eP)) := [((0, some (eI 1), (B_105.1 ++ [(1, 700), (1, 700)], [(7, 4097, 1152921508901814272, 94209, 1152921508901814272), (8, 4097, 1152921508901814272, 94209, 86017), (1013, 4097, 1152921508901814272, 94209, 69633), (1, 7, 1, 11, 0), (11, 4097, 1152921508901814272, 61441, 94209)]), hS hp_105 [(0, oS hp_105 0 [(6, (0, 86017, 1, 700)), (7, (eI 0)), (8, (0, 94209, 1, 700))])]), nTh 10 [(1, 0, 6), (1, 0, 8)]), ((0, some (eI 1), (bS B_105.1 [(4, 2, 700), (5, 1, 699), (7, 0, 698)] ++ [(1, 700), (1, 61), (1, 699), ((-1), 9999)], [(7, 4097, 1152921508901814272, 102401, 94209), (8, 4097, 1152921508901814272, 102401, 86017), (1013, 4097, 94209, 102401, 110593), (1, 12, 1, 10, 0), (1, 7, 1, 12, 0), (11, 4097, 1152921508901814272, 61441, 102401)]), hS hp_105 [(0, oS hp_105 0 [(5, (0, 36865, 2, 700)), (6, (0, 86017, 1, 700)), (7, (0, 94209, 1, 61)), (8, (0, 102401, 1, 699)), (9, (0, 110593, (-1), 9999))])]), nTh 10 [(1, 0, 6), (1, 0, 7), (1, 0, 8), (1, 0, 9)])]
def cd_105 (φ : List Nat) : eCd := (as_105, B_105, hp_105, th_105, os_105.map (fun w => w.1), φ)
def gd_105 (th : List (Option eP)) (φ : List Nat) : eCd := (as_105, B_105, hp_105, th, os_105.map (fun w => w.1), φ)
def us_105 : eUs := [(11, 33, [gd_85 [some (3, 4096, 0), some (1, 0, 2), some (1, 0, 3), some (1, 0, 4), some (1, 0, 5), some (1, 0, 6), some (1, 0, 7), some (1, 0, 8), some (1, 0, 9), some (1, 0, 10)] [0, 1, 2]])]
def sp_105 : List (Nat × Nat) := []
def ic_105 (pc : Nat) : Bool := false
def c_105_0 : eCut := ((0, eArgs 0 as_105, [], B_105, hp_105, 0, 0), [], [(900000, 0, 0)])
def K_105 : List eCut := []
set_option maxRecDepth 1000000 in
theorem k_105_0 : ckM 27 sp_105 us_105 ic_105 20000 10 3 os_105 (c_105_0 :: K_105) c_105_0 = true := by decide +kernel
set_option maxRecDepth 100000 in
theorem ok_105 {l : Launch} (htr : l.stackTraces = false) {sb : eSB} (hvs : sb.1 60 = 1) {D : va_G} {cA : Nat → ClassId} : ctH l sb D cA 27 9 as_105 B_105 hp_105 (os_105.map (fun w => w.1)) := ctH_of htr hvs (M := 27) (by decide) (lev := 8) (by decide) (L := us_105) (by decide +kernel) (List.forall_mem_cons.mpr ⟨(List.forall_mem_cons.mpr ⟨(fun FR => ctH_mono (by decide) (ok_85 htr (sb := (sb.1, FR)) hvs)), (fun _ h => absurd h List.not_mem_nil)⟩), (fun _ h => absurd h List.not_mem_nil)⟩) (n := 20000) (sp := sp_105) (isC := ic_105) (c0 := c_105_0) (K := K_105) (by decide +kernel) rfl (List.forall_mem_cons.mpr ⟨k_105_0, (fun _ h => absurd h List.not_mem_nil)⟩)
/-! BalconyPort$Reader.beginOnce -/
def as_106 : List eV := [(2, 0, 0, 0), (eI 1)]
def B_106 : eB := ([(0, cmx), (0, 700), ((-1), 700), (0, 5), (0, 700), (1, 700), (1, 61), (0, 699), ((-1), 9999), (0, 1)], [(1004, 4097, 1152921508901814272, 1152921508901814272, 36865), (7, 4097, 1152921508901814272, 61441, 53249), (8, 4097, 1152921508901814272, 61441, 45057), (1013, 4097, 53249, 61441, 69633), (1, 7, 1, 5, 0)])
def hp_106 : eH := [.inl (4, [(2, 1, 0, 0), (2, 2, 0, 0), (0, 12289, 0, 700), (0, 20481, (-1), 700), (0, 28673, 0, 5), (0, 36865, 0, 700), (0, 45057, 1, 700), (0, 53249, 1, 61), (0, 61441, 0, 699), (0, 69633, (-1), 9999), (0, 77825, 0, 1)]), fr9 1, fr9 2]
def th_106 : List (Option eP) := [some (3, 0, 0), some (1, 0, 2), some (1, 0, 3), some (1, 0, 4), some (1, 0, 5), some (1, 0, 6), some (1, 0, 7), some (1, 0, 8), some (1, 0, 9), some (1, 0, 10)]
def os_106 : List (eO × List (Option eP)) := [((0, some (eI 0), (B_106.1, [(7, 4097, 1152921508901814272, 61441, 53249), (8, 4097, 1152921508901814272, 61441, 45057), (1013, 4097, 53249, 61441, 69633)]), hS hp_106 [(0, oS hp_106 0 [(3, (0, 61441, 0, 699)), (4, (eI 5))])]), nTh 10 [])]
def cd_106 (φ : List Nat) : eCd := (as_106, B_106, hp_106, th_106, os_106.map (fun w => w.1), φ)
def gd_106 (th : List (Option eP)) (φ : List Nat) : eCd := (as_106, B_106, hp_106, th, os_106.map (fun w => w.1), φ)
def us_106 : eUs := []
def sp_106 : List (Nat × Nat) := []
def ic_106 (pc : Nat) : Bool := false
def c_106_0 : eCut := ((0, eArgs 0 as_106, [], B_106, hp_106, 0, 0), [], [(900000, 0, 0)])
def K_106 : List eCut := []
set_option maxRecDepth 1000000 in
theorem k_106_0 : ckM 27 sp_106 us_106 ic_106 20000 10 3 os_106 (c_106_0 :: K_106) c_106_0 = true := by decide +kernel
set_option maxRecDepth 100000 in
theorem ok_106 {l : Launch} (htr : l.stackTraces = false) {sb : eSB} (hvs : sb.1 60 = 1) {D : va_G} {cA : Nat → ClassId} : ctH l sb D cA 27 6 as_106 B_106 hp_106 (os_106.map (fun w => w.1)) := ctH_of htr hvs (M := 27) (by decide) (lev := 5) (by decide) (L := us_106) (by decide +kernel) (fun _ h => absurd h List.not_mem_nil) (n := 20000) (sp := sp_106) (isC := ic_106) (c0 := c_106_0) (K := K_106) (by decide +kernel) rfl (List.forall_mem_cons.mpr ⟨k_106_0, (fun _ h => absurd h List.not_mem_nil)⟩)
/-! BalconyPort$Reader.readNumber -/
def as_107 : List eV := [(2, 0, 0, 0), (2, 3, 0, 0), (0, 86017, 0, 9), (eI 1), (eI 20)]
def B_107 : eB := ([(0, cmx), (0, 700), ((-1), 700), (0, 5), (0, 700), (1, 700), (1, 61), (0, 699), ((-1), 9999), (0, 1), (0, 9)], [(1004, 4097, 1152921508901814272, 1152921508901814272, 36865), (7, 4097, 1152921508901814272, 61441, 53249), (8, 4097, 1152921508901814272, 61441, 45057), (1013, 4097, 53249, 61441, 69633), (1, 7, 1, 5, 0)])
def hp_107 : eH := [.inl (4, [(2, 1, 0, 0), (2, 2, 0, 0), (0, 12289, 0, 700), (0, 20481, (-1), 700), (0, 28673, 0, 5), (0, 36865, 0, 700), (0, 45057, 1, 700), (0, 53249, 1, 61), (0, 61441, 0, 699), (0, 69633, (-1), 9999), (0, 77825, 0, 1)]), fr9 1, .inr (10, 700, (eI 0), [(0, (0, 4097, 0, cmx))]), .inr (0, 10, (0, 0, 0, 20), [])]
def th_107 : List (Option eP) := [some (3, 0, 0), some (1, 0, 2), some (1, 0, 3), some (1, 0, 4), some (1, 0, 5), some (1, 0, 6), some (1, 0, 7), some (1, 0, 8), some (1, 0, 9), some (1, 0, 10), some (0, 2, 0)]
def os_107 : List (eO × List (Option eP)) := [((0, some (eI 0), (B_107.1 ++ [(1, 2)], [(7, 4097, 1152921508901814272, 61441, 53249), (8, 4097, 1152921508901814272, 61441, 45057), (1013, 4097, 53249, 61441, 69633), (2163, 4097, 94209, 61441, 61441)]), hS hp_107 [(0, oS hp_107 0 [(3, (0, 61441, 0, 699)), (4, (0, 94209, 1, 2))])]), nTh 11 [(1, 0, 4)]), ((0, some (eI 1), (bS B_107.1 [(6, 2, 2), (8, 1, 20)] ++ [(1, 700), (1, 700)], [(7, 4097, 1152921508901814272, 102401, 1152921508901814272), (8, 4097, 1152921508901814272, 102401, 94209), (1013, 4097, 1152921508901814272, 102401, 69633), (1, 7, 1, 12, 0), (163, 4097, 1152921508901814272, 61441, 102401)]), hS hp_107 [(0, oS hp_107 0 [(6, (0, 94209, 1, 700)), (7, (eI 0)), (8, (0, 102401, 1, 700)), (9, (0, 69633, 1, 20))])]), nTh 11 [(1, 0, 6), (1, 0, 8)]), ((0, some (eI 1), (bS B_107.1 [(4, 2, 700), (5, 1, 699), (6, 2, 2), (7, 0, 698), (8, 1, 20)] ++ [(1, 700), (1, 61), (1, 699), ((-1), 9999)], [(7, 4097, 1152921508901814272, 110593, 102401), (8, 4097, 1152921508901814272, 110593, 94209), (1013, 4097, 102401, 110593, 118785), (1, 13, 1, 11, 0), (1, 7, 1, 13, 0), (163, 4097, 1152921508901814272, 61441, 110593)]), hS hp_107 [(0, oS hp_107 0 [(5, (0, 36865, 2, 700)), (6, (0, 94209, 1, 700)), (7, (0, 102401, 1, 61)), (8, (0, 110593, 1, 699)), (9, (0, 118785, (-1), 9999))])]), nTh 11 [(1, 0, 6), (1, 0, 7), (1, 0, 8), (1, 0, 9)])]
def cd_107 (φ : List Nat) : eCd := (as_107, B_107, hp_107, th_107, os_107.map (fun w => w.1), φ)
def gd_107 (th : List (Option eP)) (φ : List Nat) : eCd := (as_107, B_107, hp_107, th, os_107.map (fun w => w.1), φ)
def us_107 : eUs := [(55, 33, [gd_85 [some (3, 4096, 0), some (1, 0, 2), some (1, 0, 3), some (1, 0, 4), some (1, 0, 5), some (1, 0, 6), some (1, 0, 7), some (1, 0, 8), some (1, 0, 9), some (1, 0, 10)] [0, 1, 2]])]
def sp_107 : List (Nat × Nat) := []
def ic_107 (pc : Nat) : Bool := false
def c_107_0 : eCut := ((0, eArgs 0 as_107, [], B_107, hp_107, 0, 0), [], [(900000, 0, 0)])
def K_107 : List eCut := []
set_option maxRecDepth 1000000 in
theorem k_107_0 : ckM 40 sp_107 us_107 ic_107 20000 11 4 os_107 (c_107_0 :: K_107) c_107_0 = true := by decide +kernel
set_option maxRecDepth 100000 in
theorem ok_107 {l : Launch} (htr : l.stackTraces = false) {sb : eSB} (hvs : sb.1 60 = 1) {D : va_G} {cA : Nat → ClassId} : ctH l sb D cA 40 9 as_107 B_107 hp_107 (os_107.map (fun w => w.1)) := ctH_of htr hvs (M := 40) (by decide) (lev := 8) (by decide) (L := us_107) (by decide +kernel) (List.forall_mem_cons.mpr ⟨(List.forall_mem_cons.mpr ⟨(fun FR => ctH_mono (by decide) (ok_85 htr (sb := (sb.1, FR)) hvs)), (fun _ h => absurd h List.not_mem_nil)⟩), (fun _ h => absurd h List.not_mem_nil)⟩) (n := 20000) (sp := sp_107) (isC := ic_107) (c0 := c_107_0) (K := K_107) (by decide +kernel) rfl (List.forall_mem_cons.mpr ⟨k_107_0, (fun _ h => absurd h List.not_mem_nil)⟩)
/-! BalconyPort$Reader.readNumber -/
def as_108 : List eV := [(2, 0, 0, 0), (2, 3, 0, 0), (0, 77825, 0, 9), (eI 1), (eI 20)]
def B_108 : eB := ([(0, cmx), (0, 700), ((-1), 700), (0, 5), (0, 700), (0, 700), (0, 700), ((-1), 9999), (0, 1), (0, 9)], [(1004, 4097, 1152921508901814272, 1152921508901814272, 36865), (7, 4097, 1152921508901814272, 53249, 1152921508901814272), (8, 4097, 1152921508901814272, 53249, 45057), (1013, 4097, 1152921508901814272, 53249, 61441)])
def hp_108 : eH := [.inl (4, [(2, 1, 0, 0), (2, 2, 0, 0), (0, 12289, 0, 700), (0, 20481, (-1), 700), (0, 28673, 0, 5), (0, 36865, 0, 700), (0, 45057, 0, 700), (eI 0), (0, 53249, 0, 700), (0, 61441, (-1), 9999), (0, 69633, 0, 1)]), fr9 1, fr9 2, fr9 3]
def th_108 : List (Option eP) := [some (3, 0, 0), some (1, 0, 2), some (1, 0, 3), some (1, 0, 4), some (1, 0, 5), some (1, 0, 6), some (1, 0, 8), some (1, 0, 9), some (1, 0, 10), some (0, 2, 0)]
def os_108 : List (eO × List (Option eP)) := [((0, some (eI 0), (B_108.1, [(7, 4097, 1152921508901814272, 53249, 1152921508901814272), (8, 4097, 1152921508901814272, 53249, 45057), (1013, 4097, 1152921508901814272, 53249, 61441), (2163, 4097, 1152921508901814273, 53249, 53249)]), hS hp_108 [(0, oS hp_108 0 [(3, (0, 53249, 0, 700)), (4, (eI 1))])]), nTh 10 [])]
def cd_108 (φ : List Nat) : eCd := (as_108, B_108, hp_108, th_108, os_108.map (fun w => w.1), φ)
def gd_108 (th : List (Option eP)) (φ : List Nat) : eCd := (as_108, B_108, hp_108, th, os_108.map (fun w => w.1), φ)
def us_108 : eUs := []
def sp_108 : List (Nat × Nat) := []
def ic_108 (pc : Nat) : Bool := false
def c_108_0 : eCut := ((0, eArgs 0 as_108, [], B_108, hp_108, 0, 0), [], [(900000, 0, 0)])
def K_108 : List eCut := []
