/-! ===== CONTRACTS, 31.m002 ===== -/
set_option maxRecDepth 1000000 in
theorem k_277_18 : ckM 175 [(0, 0)] [] (fun _ => false) 20000 1 0 os_277 [c_277_18] c_277_18 = true := by decide +kernel
set_option maxRecDepth 100000 in
theorem ok_277_18 {l : Launch} (htr : l.stackTraces = false) {sb : eSB} (hvs : sb.1 60 = 1) {D : va_G} {cA : Nat → ClassId} : ctH l sb D cA 175 6 [(0, 4097, 576, 607)] ([(576, 607)], []) [] (os_277.map (fun w => w.1)) := ctH_of htr hvs (M := 175) (by decide) (lev := 5) (by decide) (L := []) (by decide +kernel) (fun _ h => absurd h List.not_mem_nil) (n := 20000) (sp := [(0, 0)]) (isC := fun _ => false) (c0 := c_277_18) (K := []) (by decide +kernel) rfl (List.forall_mem_cons.mpr ⟨k_277_18, (fun _ h => absurd h List.not_mem_nil)⟩)
def c_277_19 : eCut := ((0, eArgs 0 [(0, 4097, 608, 639)], [], ([(608, 639)], []), [], 0, 0), [], [(900000, 0, 0)])
set_option maxRecDepth 1000000 in
theorem k_277_19 : ckM 175 [(0, 0)] [] (fun _ => false) 20000 1 0 os_277 [c_277_19] c_277_19 = true := by decide +kernel
set_option maxRecDepth 100000 in
theorem ok_277_19 {l : Launch} (htr : l.stackTraces = false) {sb : eSB} (hvs : sb.1 60 = 1) {D : va_G} {cA : Nat → ClassId} : ctH l sb D cA 175 6 [(0, 4097, 608, 639)] ([(608, 639)], []) [] (os_277.map (fun w => w.1)) := ctH_of htr hvs (M := 175) (by decide) (lev := 5) (by decide) (L := []) (by decide +kernel) (fun _ h => absurd h List.not_mem_nil) (n := 20000) (sp := [(0, 0)]) (isC := fun _ => false) (c0 := c_277_19) (K := []) (by decide +kernel) rfl (List.forall_mem_cons.mpr ⟨k_277_19, (fun _ h => absurd h List.not_mem_nil)⟩)
def c_277_20 : eCut := ((0, eArgs 0 [(0, 4097, 640, 671)], [], ([(640, 671)], []), [], 0, 0), [], [(900000, 0, 0)])
set_option maxRecDepth 1000000 in
theorem k_277_20 : ckM 175 [(0, 0)] [] (fun _ => false) 20000 1 0 os_277 [c_277_20] c_277_20 = true := by decide +kernel
set_option maxRecDepth 100000 in
theorem ok_277_20 {l : Launch} (htr : l.stackTraces = false) {sb : eSB} (hvs : sb.1 60 = 1) {D : va_G} {cA : Nat → ClassId} : ctH l sb D cA 175 6 [(0, 4097, 640, 671)] ([(640, 671)], []) [] (os_277.map (fun w => w.1)) := ctH_of htr hvs (M := 175) (by decide) (lev := 5) (by decide) (L := []) (by decide +kernel) (fun _ h => absurd h List.not_mem_nil) (n := 20000) (sp := [(0, 0)]) (isC := fun _ => false) (c0 := c_277_20) (K := []) (by decide +kernel) rfl (List.forall_mem_cons.mpr ⟨k_277_20, (fun _ h => absurd h List.not_mem_nil)⟩)
def c_277_21 : eCut := ((0, eArgs 0 [(0, 4097, 672, 703)], [], ([(672, 703)], []), [], 0, 0), [], [(900000, 0, 0)])
set_option maxRecDepth 1000000 in
theorem k_277_21 : ckM 175 [(0, 0)] [] (fun _ => false) 20000 1 0 os_277 [c_277_21] c_277_21 = true := by decide +kernel
set_option maxRecDepth 100000 in
theorem ok_277_21 {l : Launch} (htr : l.stackTraces = false) {sb : eSB} (hvs : sb.1 60 = 1) {D : va_G} {cA : Nat → ClassId} : ctH l sb D cA 175 6 [(0, 4097, 672, 703)] ([(672, 703)], []) [] (os_277.map (fun w => w.1)) := ctH_of htr hvs (M := 175) (by decide) (lev := 5) (by decide) (L := []) (by decide +kernel) (fun _ h => absurd h List.not_mem_nil) (n := 20000) (sp := [(0, 0)]) (isC := fun _ => false) (c0 := c_277_21) (K := []) (by decide +kernel) rfl (List.forall_mem_cons.mpr ⟨k_277_21, (fun _ h => absurd h List.not_mem_nil)⟩)
def c_277_22 : eCut := ((0, eArgs 0 [(0, 4097, 704, 735)], [], ([(704, 735)], []), [], 0, 0), [], [(900000, 0, 0)])
set_option maxRecDepth 1000000 in
theorem k_277_22 : ckM 175 [(0, 0)] [] (fun _ => false) 20000 1 0 os_277 [c_277_22] c_277_22 = true := by decide +kernel
set_option maxRecDepth 100000 in
theorem ok_277_22 {l : Launch} (htr : l.stackTraces = false) {sb : eSB} (hvs : sb.1 60 = 1) {D : va_G} {cA : Nat → ClassId} : ctH l sb D cA 175 6 [(0, 4097, 704, 735)] ([(704, 735)], []) [] (os_277.map (fun w => w.1)) := ctH_of htr hvs (M := 175) (by decide) (lev := 5) (by decide) (L := []) (by decide +kernel) (fun _ h => absurd h List.not_mem_nil) (n := 20000) (sp := [(0, 0)]) (isC := fun _ => false) (c0 := c_277_22) (K := []) (by decide +kernel) rfl (List.forall_mem_cons.mpr ⟨k_277_22, (fun _ h => absurd h List.not_mem_nil)⟩)
def c_277_23 : eCut := ((0, eArgs 0 [(0, 4097, 736, 767)], [], ([(736, 767)], []), [], 0, 0), [], [(900000, 0, 0)])
set_option maxRecDepth 1000000 in
theorem k_277_23 : ckM 175 [(0, 0)] [] (fun _ => false) 20000 1 0 os_277 [c_277_23] c_277_23 = true := by decide +kernel
set_option maxRecDepth 100000 in
theorem ok_277_23 {l : Launch} (htr : l.stackTraces = false) {sb : eSB} (hvs : sb.1 60 = 1) {D : va_G} {cA : Nat → ClassId} : ctH l sb D cA 175 6 [(0, 4097, 736, 767)] ([(736, 767)], []) [] (os_277.map (fun w => w.1)) := ctH_of htr hvs (M := 175) (by decide) (lev := 5) (by decide) (L := []) (by decide +kernel) (fun _ h => absurd h List.not_mem_nil) (n := 20000) (sp := [(0, 0)]) (isC := fun _ => false) (c0 := c_277_23) (K := []) (by decide +kernel) rfl (List.forall_mem_cons.mpr ⟨k_277_23, (fun _ h => absurd h List.not_mem_nil)⟩)
def c_277_24 : eCut := ((0, eArgs 0 [(0, 4097, 768, 799)], [], ([(768, 799)], []), [], 0, 0), [], [(900000, 0, 0)])
set_option maxRecDepth 1000000 in
theorem k_277_24 : ckM 175 [(0, 0)] [] (fun _ => false) 20000 1 0 os_277 [c_277_24] c_277_24 = true := by decide +kernel
set_option maxRecDepth 100000 in
theorem ok_277_24 {l : Launch} (htr : l.stackTraces = false) {sb : eSB} (hvs : sb.1 60 = 1) {D : va_G} {cA : Nat → ClassId} : ctH l sb D cA 175 6 [(0, 4097, 768, 799)] ([(768, 799)], []) [] (os_277.map (fun w => w.1)) := ctH_of htr hvs (M := 175) (by decide) (lev := 5) (by decide) (L := []) (by decide +kernel) (fun _ h => absurd h List.not_mem_nil) (n := 20000) (sp := [(0, 0)]) (isC := fun _ => false) (c0 := c_277_24) (K := []) (by decide +kernel) rfl (List.forall_mem_cons.mpr ⟨k_277_24, (fun _ h => absurd h List.not_mem_nil)⟩)
def c_277_25 : eCut := ((0, eArgs 0 [(0, 4097, 800, 831)], [], ([(800, 831)], []), [], 0, 0), [], [(900000, 0, 0)])
set_option maxRecDepth 1000000 in
theorem k_277_25 : ckM 175 [(0, 0)] [] (fun _ => false) 20000 1 0 os_277 [c_277_25] c_277_25 = true := by decide +kernel
set_option maxRecDepth 100000 in
theorem ok_277_25 {l : Launch} (htr : l.stackTraces = false) {sb : eSB} (hvs : sb.1 60 = 1) {D : va_G} {cA : Nat → ClassId} : ctH l sb D cA 175 6 [(0, 4097, 800, 831)] ([(800, 831)], []) [] (os_277.map (fun w => w.1)) := ctH_of htr hvs (M := 175) (by decide) (lev := 5) (by decide) (L := []) (by decide +kernel) (fun _ h => absurd h List.not_mem_nil) (n := 20000) (sp := [(0, 0)]) (isC := fun _ => false) (c0 := c_277_25) (K := []) (by decide +kernel) rfl (List.forall_mem_cons.mpr ⟨k_277_25, (fun _ h => absurd h List.not_mem_nil)⟩)
def c_277_26 : eCut := ((0, eArgs 0 [(0, 4097, 832, 863)], [], ([(832, 863)], []), [], 0, 0), [], [(900000, 0, 0)])
set_option maxRecDepth 1000000 in
theorem k_277_26 : ckM 175 [(0, 0)] [] (fun _ => false) 20000 1 0 os_277 [c_277_26] c_277_26 = true := by decide +kernel
set_option maxRecDepth 100000 in
theorem ok_277_26 {l : Launch} (htr : l.stackTraces = false) {sb : eSB} (hvs : sb.1 60 = 1) {D : va_G} {cA : Nat → ClassId} : ctH l sb D cA 175 6 [(0, 4097, 832, 863)] ([(832, 863)], []) [] (os_277.map (fun w => w.1)) := ctH_of htr hvs (M := 175) (by decide) (lev := 5) (by decide) (L := []) (by decide +kernel) (fun _ h => absurd h List.not_mem_nil) (n := 20000) (sp := [(0, 0)]) (isC := fun _ => false) (c0 := c_277_26) (K := []) (by decide +kernel) rfl (List.forall_mem_cons.mpr ⟨k_277_26, (fun _ h => absurd h List.not_mem_nil)⟩)
def c_277_27 : eCut := ((0, eArgs 0 [(0, 4097, 864, 895)], [], ([(864, 895)], []), [], 0, 0), [], [(900000, 0, 0)])
set_option maxRecDepth 1000000 in
theorem k_277_27 : ckM 175 [(0, 0)] [] (fun _ => false) 20000 1 0 os_277 [c_277_27] c_277_27 = true := by decide +kernel
set_option maxRecDepth 100000 in
theorem ok_277_27 {l : Launch} (htr : l.stackTraces = false) {sb : eSB} (hvs : sb.1 60 = 1) {D : va_G} {cA : Nat → ClassId} : ctH l sb D cA 175 6 [(0, 4097, 864, 895)] ([(864, 895)], []) [] (os_277.map (fun w => w.1)) := ctH_of htr hvs (M := 175) (by decide) (lev := 5) (by decide) (L := []) (by decide +kernel) (fun _ h => absurd h List.not_mem_nil) (n := 20000) (sp := [(0, 0)]) (isC := fun _ => false) (c0 := c_277_27) (K := []) (by decide +kernel) rfl (List.forall_mem_cons.mpr ⟨k_277_27, (fun _ h => absurd h List.not_mem_nil)⟩)
def c_277_28 : eCut := ((0, eArgs 0 [(0, 4097, 896, 927)], [], ([(896, 927)], []), [], 0, 0), [], [(900000, 0, 0)])
set_option maxRecDepth 1000000 in
theorem k_277_28 : ckM 175 [(0, 0)] [] (fun _ => false) 20000 1 0 os_277 [c_277_28] c_277_28 = true := by decide +kernel
set_option maxRecDepth 100000 in
theorem ok_277_28 {l : Launch} (htr : l.stackTraces = false) {sb : eSB} (hvs : sb.1 60 = 1) {D : va_G} {cA : Nat → ClassId} : ctH l sb D cA 175 6 [(0, 4097, 896, 927)] ([(896, 927)], []) [] (os_277.map (fun w => w.1)) := ctH_of htr hvs (M := 175) (by decide) (lev := 5) (by decide) (L := []) (by decide +kernel) (fun _ h => absurd h List.not_mem_nil) (n := 20000) (sp := [(0, 0)]) (isC := fun _ => false) (c0 := c_277_28) (K := []) (by decide +kernel) rfl (List.forall_mem_cons.mpr ⟨k_277_28, (fun _ h => absurd h List.not_mem_nil)⟩)
def c_277_29 : eCut := ((0, eArgs 0 [(0, 4097, 928, 959)], [], ([(928, 959)], []), [], 0, 0), [], [(900000, 0, 0)])
set_option maxRecDepth 1000000 in
theorem k_277_29 : ckM 175 [(0, 0)] [] (fun _ => false) 20000 1 0 os_277 [c_277_29] c_277_29 = true := by decide +kernel
set_option maxRecDepth 100000 in
theorem ok_277_29 {l : Launch} (htr : l.stackTraces = false) {sb : eSB} (hvs : sb.1 60 = 1) {D : va_G} {cA : Nat → ClassId} : ctH l sb D cA 175 6 [(0, 4097, 928, 959)] ([(928, 959)], []) [] (os_277.map (fun w => w.1)) := ctH_of htr hvs (M := 175) (by decide) (lev := 5) (by decide) (L := []) (by decide +kernel) (fun _ h => absurd h List.not_mem_nil) (n := 20000) (sp := [(0, 0)]) (isC := fun _ => false) (c0 := c_277_29) (K := []) (by decide +kernel) rfl (List.forall_mem_cons.mpr ⟨k_277_29, (fun _ h => absurd h List.not_mem_nil)⟩)
def c_277_30 : eCut := ((0, eArgs 0 [(0, 4097, 960, 991)], [], ([(960, 991)], []), [], 0, 0), [], [(900000, 0, 0)])
