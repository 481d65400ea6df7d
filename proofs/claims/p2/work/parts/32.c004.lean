/-! ===== CONTRACTS, 32.c004 ===== -/
set_option maxRecDepth 1000000 in
theorem k_68_2 : ckM 278 [(0, 0)] [] (fun _ => false) 20000 1 0 os_68 [c_68_2] c_68_2 = true := by decide +kernel
set_option maxRecDepth 100000 in
theorem ok_68_2 {l : Launch} (htr : l.stackTraces = false) {sb : eSB} (hvs : sb.1 60 = 1) {D : va_G} {cA : Nat → ClassId} : ctH l sb D cA 278 6 [(0, 4097, 128, 191)] ([(128, 191)], []) [] (os_68.map (fun w => w.1)) := ctH_of htr hvs (M := 278) (by decide) (lev := 5) (by decide) (L := []) (by decide +kernel) (fun _ h => absurd h List.not_mem_nil) (n := 20000) (sp := [(0, 0)]) (isC := fun _ => false) (c0 := c_68_2) (K := []) (by decide +kernel) rfl (List.forall_mem_cons.mpr ⟨k_68_2, (fun _ h => absurd h List.not_mem_nil)⟩)
def c_68_3 : eCut := ((0, eArgs 0 [(0, 4097, 192, 255)], [], ([(192, 255)], []), [], 0, 0), [], [(900000, 0, 0)])
set_option maxRecDepth 1000000 in
theorem k_68_3 : ckM 278 [(0, 0)] [] (fun _ => false) 20000 1 0 os_68 [c_68_3] c_68_3 = true := by decide +kernel
set_option maxRecDepth 100000 in
theorem ok_68_3 {l : Launch} (htr : l.stackTraces = false) {sb : eSB} (hvs : sb.1 60 = 1) {D : va_G} {cA : Nat → ClassId} : ctH l sb D cA 278 6 [(0, 4097, 192, 255)] ([(192, 255)], []) [] (os_68.map (fun w => w.1)) := ctH_of htr hvs (M := 278) (by decide) (lev := 5) (by decide) (L := []) (by decide +kernel) (fun _ h => absurd h List.not_mem_nil) (n := 20000) (sp := [(0, 0)]) (isC := fun _ => false) (c0 := c_68_3) (K := []) (by decide +kernel) rfl (List.forall_mem_cons.mpr ⟨k_68_3, (fun _ h => absurd h List.not_mem_nil)⟩)
def c_68_4 : eCut := ((0, eArgs 0 [(0, 4097, 256, 319)], [], ([(256, 319)], []), [], 0, 0), [], [(900000, 0, 0)])
set_option maxRecDepth 1000000 in
theorem k_68_4 : ckM 278 [(0, 0)] [] (fun _ => false) 20000 1 0 os_68 [c_68_4] c_68_4 = true := by decide +kernel
set_option maxRecDepth 100000 in
theorem ok_68_4 {l : Launch} (htr : l.stackTraces = false) {sb : eSB} (hvs : sb.1 60 = 1) {D : va_G} {cA : Nat → ClassId} : ctH l sb D cA 278 6 [(0, 4097, 256, 319)] ([(256, 319)], []) [] (os_68.map (fun w => w.1)) := ctH_of htr hvs (M := 278) (by decide) (lev := 5) (by decide) (L := []) (by decide +kernel) (fun _ h => absurd h List.not_mem_nil) (n := 20000) (sp := [(0, 0)]) (isC := fun _ => false) (c0 := c_68_4) (K := []) (by decide +kernel) rfl (List.forall_mem_cons.mpr ⟨k_68_4, (fun _ h => absurd h List.not_mem_nil)⟩)
def c_68_5 : eCut := ((0, eArgs 0 [(0, 4097, 320, 383)], [], ([(320, 383)], []), [], 0, 0), [], [(900000, 0, 0)])
set_option maxRecDepth 1000000 in
theorem k_68_5 : ckM 278 [(0, 0)] [] (fun _ => false) 20000 1 0 os_68 [c_68_5] c_68_5 = true := by decide +kernel
set_option maxRecDepth 100000 in
theorem ok_68_5 {l : Launch} (htr : l.stackTraces = false) {sb : eSB} (hvs : sb.1 60 = 1) {D : va_G} {cA : Nat → ClassId} : ctH l sb D cA 278 6 [(0, 4097, 320, 383)] ([(320, 383)], []) [] (os_68.map (fun w => w.1)) := ctH_of htr hvs (M := 278) (by decide) (lev := 5) (by decide) (L := []) (by decide +kernel) (fun _ h => absurd h List.not_mem_nil) (n := 20000) (sp := [(0, 0)]) (isC := fun _ => false) (c0 := c_68_5) (K := []) (by decide +kernel) rfl (List.forall_mem_cons.mpr ⟨k_68_5, (fun _ h => absurd h List.not_mem_nil)⟩)
def c_68_6 : eCut := ((0, eArgs 0 [(0, 4097, 384, 447)], [], ([(384, 447)], []), [], 0, 0), [], [(900000, 0, 0)])
set_option maxRecDepth 1000000 in
theorem k_68_6 : ckM 278 [(0, 0)] [] (fun _ => false) 20000 1 0 os_68 [c_68_6] c_68_6 = true := by decide +kernel
set_option maxRecDepth 100000 in
theorem ok_68_6 {l : Launch} (htr : l.stackTraces = false) {sb : eSB} (hvs : sb.1 60 = 1) {D : va_G} {cA : Nat → ClassId} : ctH l sb D cA 278 6 [(0, 4097, 384, 447)] ([(384, 447)], []) [] (os_68.map (fun w => w.1)) := ctH_of htr hvs (M := 278) (by decide) (lev := 5) (by decide) (L := []) (by decide +kernel) (fun _ h => absurd h List.not_mem_nil) (n := 20000) (sp := [(0, 0)]) (isC := fun _ => false) (c0 := c_68_6) (K := []) (by decide +kernel) rfl (List.forall_mem_cons.mpr ⟨k_68_6, (fun _ h => absurd h List.not_mem_nil)⟩)
def c_68_7 : eCut := ((0, eArgs 0 [(0, 4097, 448, 511)], [], ([(448, 511)], []), [], 0, 0), [], [(900000, 0, 0)])
set_option maxRecDepth 1000000 in
theorem k_68_7 : ckM 278 [(0, 0)] [] (fun _ => false) 20000 1 0 os_68 [c_68_7] c_68_7 = true := by decide +kernel
set_option maxRecDepth 100000 in
theorem ok_68_7 {l : Launch} (htr : l.stackTraces = false) {sb : eSB} (hvs : sb.1 60 = 1) {D : va_G} {cA : Nat → ClassId} : ctH l sb D cA 278 6 [(0, 4097, 448, 511)] ([(448, 511)], []) [] (os_68.map (fun w => w.1)) := ctH_of htr hvs (M := 278) (by decide) (lev := 5) (by decide) (L := []) (by decide +kernel) (fun _ h => absurd h List.not_mem_nil) (n := 20000) (sp := [(0, 0)]) (isC := fun _ => false) (c0 := c_68_7) (K := []) (by decide +kernel) rfl (List.forall_mem_cons.mpr ⟨k_68_7, (fun _ h => absurd h List.not_mem_nil)⟩)
def c_68_8 : eCut := ((0, eArgs 0 [(0, 4097, 512, 575)], [], ([(512, 575)], []), [], 0, 0), [], [(900000, 0, 0)])
set_option maxRecDepth 1000000 in
theorem k_68_8 : ckM 278 [(0, 0)] [] (fun _ => false) 20000 1 0 os_68 [c_68_8] c_68_8 = true := by decide +kernel
set_option maxRecDepth 100000 in
theorem ok_68_8 {l : Launch} (htr : l.stackTraces = false) {sb : eSB} (hvs : sb.1 60 = 1) {D : va_G} {cA : Nat → ClassId} : ctH l sb D cA 278 6 [(0, 4097, 512, 575)] ([(512, 575)], []) [] (os_68.map (fun w => w.1)) := ctH_of htr hvs (M := 278) (by decide) (lev := 5) (by decide) (L := []) (by decide +kernel) (fun _ h => absurd h List.not_mem_nil) (n := 20000) (sp := [(0, 0)]) (isC := fun _ => false) (c0 := c_68_8) (K := []) (by decide +kernel) rfl (List.forall_mem_cons.mpr ⟨k_68_8, (fun _ h => absurd h List.not_mem_nil)⟩)
def c_68_9 : eCut := ((0, eArgs 0 [(0, 4097, 576, 639)], [], ([(576, 639)], []), [], 0, 0), [], [(900000, 0, 0)])
set_option maxRecDepth 1000000 in
theorem k_68_9 : ckM 278 [(0, 0)] [] (fun _ => false) 20000 1 0 os_68 [c_68_9] c_68_9 = true := by decide +kernel
set_option maxRecDepth 100000 in
theorem ok_68_9 {l : Launch} (htr : l.stackTraces = false) {sb : eSB} (hvs : sb.1 60 = 1) {D : va_G} {cA : Nat → ClassId} : ctH l sb D cA 278 6 [(0, 4097, 576, 639)] ([(576, 639)], []) [] (os_68.map (fun w => w.1)) := ctH_of htr hvs (M := 278) (by decide) (lev := 5) (by decide) (L := []) (by decide +kernel) (fun _ h => absurd h List.not_mem_nil) (n := 20000) (sp := [(0, 0)]) (isC := fun _ => false) (c0 := c_68_9) (K := []) (by decide +kernel) rfl (List.forall_mem_cons.mpr ⟨k_68_9, (fun _ h => absurd h List.not_mem_nil)⟩)
def c_68_10 : eCut := ((0, eArgs 0 [(0, 4097, 640, 703)], [], ([(640, 703)], []), [], 0, 0), [], [(900000, 0, 0)])
set_option maxRecDepth 1000000 in
theorem k_68_10 : ckM 278 [(0, 0)] [] (fun _ => false) 20000 1 0 os_68 [c_68_10] c_68_10 = true := by decide +kernel
set_option maxRecDepth 100000 in
theorem ok_68_10 {l : Launch} (htr : l.stackTraces = false) {sb : eSB} (hvs : sb.1 60 = 1) {D : va_G} {cA : Nat → ClassId} : ctH l sb D cA 278 6 [(0, 4097, 640, 703)] ([(640, 703)], []) [] (os_68.map (fun w => w.1)) := ctH_of htr hvs (M := 278) (by decide) (lev := 5) (by decide) (L := []) (by decide +kernel) (fun _ h => absurd h List.not_mem_nil) (n := 20000) (sp := [(0, 0)]) (isC := fun _ => false) (c0 := c_68_10) (K := []) (by decide +kernel) rfl (List.forall_mem_cons.mpr ⟨k_68_10, (fun _ h => absurd h List.not_mem_nil)⟩)
def c_68_11 : eCut := ((0, eArgs 0 [(0, 4097, 704, 767)], [], ([(704, 767)], []), [], 0, 0), [], [(900000, 0, 0)])
set_option maxRecDepth 1000000 in
theorem k_68_11 : ckM 278 [(0, 0)] [] (fun _ => false) 20000 1 0 os_68 [c_68_11] c_68_11 = true := by decide +kernel
set_option maxRecDepth 100000 in
theorem ok_68_11 {l : Launch} (htr : l.stackTraces = false) {sb : eSB} (hvs : sb.1 60 = 1) {D : va_G} {cA : Nat → ClassId} : ctH l sb D cA 278 6 [(0, 4097, 704, 767)] ([(704, 767)], []) [] (os_68.map (fun w => w.1)) := ctH_of htr hvs (M := 278) (by decide) (lev := 5) (by decide) (L := []) (by decide +kernel) (fun _ h => absurd h List.not_mem_nil) (n := 20000) (sp := [(0, 0)]) (isC := fun _ => false) (c0 := c_68_11) (K := []) (by decide +kernel) rfl (List.forall_mem_cons.mpr ⟨k_68_11, (fun _ h => absurd h List.not_mem_nil)⟩)
def c_68_12 : eCut := ((0, eArgs 0 [(0, 4097, 768, 831)], [], ([(768, 831)], []), [], 0, 0), [], [(900000, 0, 0)])
set_option maxRecDepth 1000000 in
theorem k_68_12 : ckM 278 [(0, 0)] [] (fun _ => false) 20000 1 0 os_68 [c_68_12] c_68_12 = true := by decide +kernel
set_option maxRecDepth 100000 in
theorem ok_68_12 {l : Launch} (htr : l.stackTraces = false) {sb : eSB} (hvs : sb.1 60 = 1) {D : va_G} {cA : Nat → ClassId} : ctH l sb D cA 278 6 [(0, 4097, 768, 831)] ([(768, 831)], []) [] (os_68.map (fun w => w.1)) := ctH_of htr hvs (M := 278) (by decide) (lev := 5) (by decide) (L := []) (by decide +kernel) (fun _ h => absurd h List.not_mem_nil) (n := 20000) (sp := [(0, 0)]) (isC := fun _ => false) (c0 := c_68_12) (K := []) (by decide +kernel) rfl (List.forall_mem_cons.mpr ⟨k_68_12, (fun _ h => absurd h List.not_mem_nil)⟩)
def c_68_13 : eCut := ((0, eArgs 0 [(0, 4097, 832, 895)], [], ([(832, 895)], []), [], 0, 0), [], [(900000, 0, 0)])
set_option maxRecDepth 1000000 in
theorem k_68_13 : ckM 278 [(0, 0)] [] (fun _ => false) 20000 1 0 os_68 [c_68_13] c_68_13 = true := by decide +kernel
set_option maxRecDepth 100000 in
theorem ok_68_13 {l : Launch} (htr : l.stackTraces = false) {sb : eSB} (hvs : sb.1 60 = 1) {D : va_G} {cA : Nat → ClassId} : ctH l sb D cA 278 6 [(0, 4097, 832, 895)] ([(832, 895)], []) [] (os_68.map (fun w => w.1)) := ctH_of htr hvs (M := 278) (by decide) (lev := 5) (by decide) (L := []) (by decide +kernel) (fun _ h => absurd h List.not_mem_nil) (n := 20000) (sp := [(0, 0)]) (isC := fun _ => false) (c0 := c_68_13) (K := []) (by decide +kernel) rfl (List.forall_mem_cons.mpr ⟨k_68_13, (fun _ h => absurd h List.not_mem_nil)⟩)
def c_68_14 : eCut := ((0, eArgs 0 [(0, 4097, 896, 959)], [], ([(896, 959)], []), [], 0, 0), [], [(900000, 0, 0)])
