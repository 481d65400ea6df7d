/-! ===== CONTRACTS of the model, 1 ===== -/
/-! BalconyPortModel.bitsOf -/
def as_207 : List eV := [(0, 4097, 0, 1023)]
def B_207 : eB := ([(0, 1023)], [])
def hp_207 : eH := []
def th_207 : List (Option eP) := [some (0, 0, 0)]
def os_207 : List (eO × List (Option eP)) := [((0, some (0, 12289, 0, 1023), ([(0, 1023), (0, 1023)], []), []), [none, some (0, 0, 0)])]
def cd_207 (φ : List Nat) : eCd := (as_207, B_207, hp_207, th_207, os_207.map (fun w => w.1), φ)
def us_207 : eUs := []
def sp_207 : List (Nat × Nat) := []
def ic_207 (pc : Nat) : Bool := false
def c_207_0 : eCut := ((0, eArgs 0 as_207, [], B_207, hp_207, 0, 0), [], [(900000, 0, 0)])
def K_207 : List eCut := []
set_option maxRecDepth 1000000 in
theorem k_207_0 : ckM 175 sp_207 us_207 ic_207 20000 1 0 os_207 (c_207_0 :: K_207) c_207_0 = true := by decide +kernel
set_option maxRecDepth 100000 in
theorem ok_207 {l : Launch} (htr : l.stackTraces = false) {sb : eSB} (hvs : sb.1 60 = 1) {D : va_G} {cA : Nat → ClassId} : ctH l sb D cA 175 6 as_207 B_207 hp_207 (os_207.map (fun w => w.1)) := ctH_of htr hvs (M := 175) (by decide) (lev := 5) (by decide) (L := us_207) (by decide +kernel) (fun _ h => absurd h List.not_mem_nil) (n := 20000) (sp := sp_207) (isC := ic_207) (c0 := c_207_0) (K := K_207) (by decide +kernel) rfl (List.forall_mem_cons.mpr ⟨k_207_0, (fun _ h => absurd h List.not_mem_nil)⟩)
