set_option maxRecDepth 1000000 in
theorem k_68_10 : ckM 278 [(0, 0)] [] (fun _ => false) 20000 1 0 os_68 [c_68_10] c_68_10 = true := by decide +kernel
set_option maxRecDepth 100000 in
theorem ok_68_10 {l : Launch} (htr : l.stackTraces = false) {sb : eSB} (hvs : sb.1 60 = 1) {D : va_G} {cA : Nat → ClassId} : ctH l sb D cA 278 6 [(0, 4097, 640, 703)] ([(640, 703)], []) [] (os_68.map (fun w => w.1)) := ctH_of htr hvs (M := 278) (by decide) (lev := 5) (by decide) (L := []) (by decide +kernel) (fun _ h => absurd h List.not_mem_nil) (n := 20000) (sp := [(0, 0)]) (isC := fun _ => false) (c0 := c_68_10) (K := []) (by decide +kernel) rfl (List.forall_mem_cons.mpr ⟨k_68_10, (fun _ h => absurd h List.not_mem_nil)⟩)
def c_68_11 : eCut := ((0, eArgs 0 [(0, 4097, 704, 767)], [], ([(704, 767)], []), [], 0, 0), [], [(900000, 0, 0)])
set_option maxRecDepth 1000000 in
theorem k_68_11 : ckM 278 [(0, 0)] [] (fun _ => false) 20000 1 0 os_68 [c_68_11] c_68_11 = true := by decide +kernel
set_option maxRecDepth 100000 in
theorem ok_68_11 {l : Launch} (htr : l.stackTraces = false) {sb : eSB} (hvs : sb.1 60 = 1) {D : va_G} {cA : Nat → ClassId} : ctH l sb D cA 278 6 [(0, 4097, 704, 767)] ([(704, 767)], []) [] (os_68.map (fun w => w.1)) := ctH_of htr hvs (M := 278) (by decide) (lev := 5) (by decide) (L := []) (by decide +kernel) (fun _ h => absurd h List.not_mem_nil) (n := 20000) (sp := [(0, 0)]) (isC := fun _ => false) (c0 := c_68_11) (K := []) (by decide +kernel) rfl (List.forall_mem_cons.mpr ⟨k_68_11, (fun _ h => absurd h List.not_mem_nil)⟩)
def c_68_12 : eCut := ((0, eArgs 0 [(0, 4097, 768, 831)], [], ([(768, 831)], []), [], 0, 0), [], [(900000, 0, 0)])
set_option maxRecDepth 1000000 in
theorem k_68_12 : ckM 278 [(0, 0)] [] (fun _ => false) 20000 1 0 os_68 [c_68_12] c_68_12 = true := by decide +kernel
set_option maxRecDepth 100000 in
theorem ok_68_12 {l : Launch} (htr : l.stackTraces = false) {sb : eSB} (hvs : sb.1 60 = 1) {D : va_G} {cA : Nat → ClassId} : ctH l sb D cA 278 6 [(0, 4097, 768, 831)] ([(768, 831)], []) [] (os_68.map (fun w => w.1)) := ctH_of htr hvs (M := 278) (by decide) (lev := 5) (by decide) (L := []) (by decide +kernel) (fun _ h => absurd h List.not_mem_nil) (n := 20000) (sp := [(0, 0)]) (isC := fun _ => false) (c0 := c_68_12) (K := []) (by decide +kernel) rfl (List.forall_mem_cons.mpr ⟨k_68_12, (fun _ h => absurd h List.not_mem_nil)⟩)
def c_68_13 : eCut := ((0, eArgs 0 [(0, 4097, 832, 895)], [], ([(832, 895)], []), [], 0, 0), [], [(900000, 0, 0)])
set_option maxRecDepth 1000000 in
theorem k_68_13 : ckM 278 [(0, 0)] [] (fun _ => false) 20000 1 0 os_68 [c_68_13] c_68_13 = true := by decide +kernel
set_option maxRecDepth 100000 in
theorem ok_68_13 {l : Launch} (htr : l.stackTraces = false) {sb : eSB} (hvs : sb.1 60 = 1) {D : va_G} {cA : Nat → ClassId} : ctH l sb D cA 278 6 [(0, 4097, 832, 895)] ([(832, 895)], []) [] (os_68.map (fun w => w.1)) := ctH_of htr hvs (M := 278) (by decide) (lev := 5) (by decide) (L := []) (by decide +kernel) (fun _ h => absurd h List.not_mem_nil) (n := 20000) (sp := [(0, 0)]) (isC := fun _ => false) (c0 := c_68_13) (K := []) (by decide +kernel) rfl (List.forall_mem_cons.mpr ⟨k_68_13, (fun _ h => absurd h List.not_mem_nil)⟩)
def c_68_14 : eCut := ((0, eArgs 0 [(0, 4097, 896, 959)], [], ([(896, 959)], []), [], 0, 0), [], [(900000, 0, 0)])
