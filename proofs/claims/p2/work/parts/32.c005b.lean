set_option maxRecDepth 1000000 in
theorem k_68_2 : ckM 278 [(0, 0)] [] (fun _ => false) 20000 1 0 os_68 [c_68_2] c_68_2 = true := by decide +kernel
set_option maxRecDepth 100000 in
theorem ok_68_2 {l : Launch} (htr : l.stackTraces = false) {sb : eSB} (hvs : sb.1 60 = 1) {D : va_G} {cA : Nat → ClassId} : ctH l sb D cA 278 6 [(0, 4097, 128, 191)] ([(128, 191)], []) [] (os_68.map (fun w => w.1)) := ctH_of htr hvs (M := 278) (by decide) (lev := 5) (by decide) (L := []) (by decide +kernel) (fun _ h => absurd h List.not_mem_nil) (n := 20000) (sp := [(0, 0)]) (isC := fun _ => false) (c0 := c_68_2) (K := []) (by decide +kernel) rfl (List.forall_mem_cons.mpr ⟨k_68_2, (fun _ h => absurd h List.not_mem_nil)⟩)
def c_68_3 : eCut := ((0, eArgs 0 [(0, 4097, 192, 255)], [], ([(192, 255)], []), [], 0, 0), [], [(900000, 0, 0)])
set_option maxRecDepth 1000000 in
theorem k_68_3 : ckM 278 [(0, 0)] [] (fun _ => false) 20000 1 0 os_68 [c_68_3] c_68_3 = true := by decide +kernel
set_option maxRecDepth 100000 in
theorem ok_68_3 {l : Launch} (htr : l.stackTraces = false) {sb : eSB} (hvs : sb.1 60 = 1) {D : va_G} {cA : Nat → ClassId} : ctH l sb D cA 278 6 [(0, 4097, 192, 255)] ([(192, 255)], []) [] (os_68.map (fun w => w.1)) := ctH_of htr hvs (M := 278) (by decide) (lev := 5) (by decide) (L := []) (by decide +kernel) (fun _ h => absurd h List.not_mem_nil) (n := 20000) (sp := [(0, 0)]) (isC := fun _ => false) (c0 := c_68_3) (K := []) (by decide +kernel) rfl (List.forall_mem_cons.mpr ⟨k_68_3, (fun _ h => absurd h List.not_mem_nil)⟩)
def c_68_4 : eCut := ((0, eArgs 0 [(0, 4097, 256, 319)], [], ([(256, 319)], []), [], 0, 0), [], [(900000, 0, 0)])
set_option maxRecDepth 1000000 in
theorem k_68_4 : ckM 278 [(0, 0)] [] (fun _ => false) 20000 1 0 os_68 [c_68_4] c_68_4 = true := by decide +kernel
set_option maxRecDepth 100000 in
theorem ok_68_4 {l : Launch} (htr : l.stackTraces = false) {sb : eSB} (hvs : sb.1 60 = 1) {D : va_G} {cA : Nat → ClassId} : ctH l sb D cA 278 6 [(0, 4097, 256, 319)] ([(256, 319)], []) [] (os_68.map (fun w => w.1)) := ctH_of htr hvs (M := 278) (by decide) (lev := 5) (by decide) (L := []) (by decide +kernel) (fun _ h => absurd h List.not_mem_nil) (n := 20000) (sp := [(0, 0)]) (isC := fun _ => false) (c0 := c_68_4) (K := []) (by decide +kernel) rfl (List.forall_mem_cons.mpr ⟨k_68_4, (fun _ h => absurd h List.not_mem_nil)⟩)
def c_68_5 : eCut := ((0, eArgs 0 [(0, 4097, 320, 383)], [], ([(320, 383)], []), [], 0, 0), [], [(900000, 0, 0)])
set_option maxRecDepth 1000000 in
theorem k_68_5 : ckM 278 [(0, 0)] [] (fun _ => false) 20000 1 0 os_68 [c_68_5] c_68_5 = true := by decide +kernel
set_option maxRecDepth 100000 in
theorem ok_68_5 {l : Launch} (htr : l.stackTraces = false) {sb : eSB} (hvs : sb.1 60 = 1) {D : va_G} {cA : Nat → ClassId} : ctH l sb D cA 278 6 [(0, 4097, 320, 383)] ([(320, 383)], []) [] (os_68.map (fun w => w.1)) := ctH_of htr hvs (M := 278) (by decide) (lev := 5) (by decide) (L := []) (by decide +kernel) (fun _ h => absurd h List.not_mem_nil) (n := 20000) (sp := [(0, 0)]) (isC := fun _ => false) (c0 := c_68_5) (K := []) (by decide +kernel) rfl (List.forall_mem_cons.mpr ⟨k_68_5, (fun _ h => absurd h List.not_mem_nil)⟩)
def c_68_6 : eCut := ((0, eArgs 0 [(0, 4097, 384, 447)], [], ([(384, 447)], []), [], 0, 0), [], [(900000, 0, 0)])
