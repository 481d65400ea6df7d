set_option maxRecDepth 1000000 in
theorem k_68_6 : ckM 278 [(0, 0)] [] (fun _ => false) 20000 1 0 os_68 [c_68_6] c_68_6 = true := by decide +kernel
set_option maxRecDepth 100000 in
theorem ok_68_6 {l : Launch} (htr : l.stackTraces = false) {sb : eSB} (hvs : sb.1 60 = 1) {D : va_G} {cA : Nat → ClassId} : ctH l sb D cA 278 6 [(0, 4097, 384, 447)] ([(384, 447)], []) [] (os_68.map (fun w => w.1)) := ctH_of htr hvs (M := 278) (by decide) (lev := 5) (by decide) (L := []) (by decide +kernel) (fun _ h => absurd h List.not_mem_nil) (n := 20000) (sp := [(0, 0)]) (isC := fun _ => false) (c0 := c_68_6) (K := []) (by decide +kernel) rfl (List.forall_mem_cons.mpr ⟨k_68_6, (fun _ h => absurd h List.not_mem_nil)⟩)
def c_68_7 : eCut := ((0, eArgs 0 [(0, 4097, 448, 511)], [], ([(448, 511)], []), [], 0, 0), [], [(900000, 0, 0)])
set_option maxRecDepth 1000000 in
theorem k_68_7 : ckM 278 [(0, 0)] [] (fun _ => false) 20000 1 0 os_68 [c_68_7] c_68_7 = true := by decide +kernel
set_option maxRecDepth 100000 in
theorem ok_68_7 {l : Launch} (htr : l.stackTraces = false) {sb : eSB} (hvs : sb.1 60 = 1) {D : va_G} {cA : Nat → ClassId} : ctH l sb D cA 278 6 [(0, 4097, 448, 511)] ([(448, 511)], []) [] (os_68.map (fun w => w.1)) := ctH_of htr hvs (M := 278) (by decide) (lev := 5) (by decide) (L := []) (by decide +kernel) (fun _ h => absurd h List.not_mem_nil) (n := 20000) (sp := [(0, 0)]) (isC := fun _ => false) (c0 := c_68_7) (K := []) (by decide +kernel) rfl (List.forall_mem_cons.mpr ⟨k_68_7, (fun _ h => absurd h List.not_mem_nil)⟩)
def c_68_8 : eCut := ((0, eArgs 0 [(0, 4097, 512, 575)], [], ([(512, 575)], []), [], 0, 0), [], [(900000, 0, 0)])
set_option maxRecDepth 1000000 in
theorem k_68_8 : ckM 278 [(0, 0)] [] (fun _ => false) 20000 1 0 os_68 [c_68_8] c_68_8 = true := by decide +kernel
set_option maxRecDepth 100000 in
theorem ok_68_8 {l : Launch} (htr : l.stackTraces = false) {sb : eSB} (hvs : sb.1 60 = 1) {D : va_G} {cA : Nat → ClassId} : ctH l sb D cA 278 6 [(0, 4097, 512, 575)] ([(512, 575)], []) [] (os_68.map (fun w => w.1)) := ctH_of htr hvs (M := 278) (by decide) (lev := 5) (by decide) (L := []) (by decide +kernel) (fun _ h => absurd h List.not_mem_nil) (n := 20000) (sp := [(0, 0)]) (isC := fun _ => false) (c0 := c_68_8) (K := []) (by decide +kernel) rfl (List.forall_mem_cons.mpr ⟨k_68_8, (fun _ h => absurd h List.not_mem_nil)⟩)
def c_68_9 : eCut := ((0, eArgs 0 [(0, 4097, 576, 639)], [], ([(576, 639)], []), [], 0, 0), [], [(900000, 0, 0)])
set_option maxRecDepth 1000000 in
theorem k_68_9 : ckM 278 [(0, 0)] [] (fun _ => false) 20000 1 0 os_68 [c_68_9] c_68_9 = true := by decide +kernel
set_option maxRecDepth 100000 in
theorem ok_68_9 {l : Launch} (htr : l.stackTraces = false) {sb : eSB} (hvs : sb.1 60 = 1) {D : va_G} {cA : Nat → ClassId} : ctH l sb D cA 278 6 [(0, 4097, 576, 639)] ([(576, 639)], []) [] (os_68.map (fun w => w.1)) := ctH_of htr hvs (M := 278) (by decide) (lev := 5) (by decide) (L := []) (by decide +kernel) (fun _ h => absurd h List.not_mem_nil) (n := 20000) (sp := [(0, 0)]) (isC := fun _ => false) (c0 := c_68_9) (K := []) (by decide +kernel) rfl (List.forall_mem_cons.mpr ⟨k_68_9, (fun _ h => absurd h List.not_mem_nil)⟩)
def c_68_10 : eCut := ((0, eArgs 0 [(0, 4097, 640, 703)], [], ([(640, 703)], []), [], 0, 0), [], [(900000, 0, 0)])
