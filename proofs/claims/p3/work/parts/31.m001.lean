/-! ===== CONTRACTS, 31.m001 ===== -/
set_option maxRecDepth 1000000 in
theorem k_277_6 : ckM 175 [(0, 0)] [] (fun _ => false) 20000 1 0 os_277 [c_277_6] c_277_6 = true := by decide +kernel
set_option maxRecDepth 100000 in
theorem ok_277_6 {l : Launch} (htr : l.stackTraces = false) {sb : eSB} (hvs : sb.1 60 = 1) {D : va_G} {cA : Nat → ClassId} : ctH l sb D cA 175 6 [(0, 4097, 192, 223)] ([(192, 223)], []) [] (os_277.map (fun w => w.1)) := ctH_of htr hvs (M := 175) (by decide) (lev := 5) (by decide) (L := []) (by decide +kernel) (fun _ h => absurd h List.not_mem_nil) (n := 20000) (sp := [(0, 0)]) (isC := fun _ => false) (c0 := c_277_6) (K := []) (by decide +kernel) rfl (List.forall_mem_cons.mpr ⟨k_277_6, (fun _ h => absurd h List.not_mem_nil)⟩)
def c_277_7 : eCut := ((0, eArgs 0 [(0, 4097, 224, 255)], [], ([(224, 255)], []), [], 0, 0), [], [(900000, 0, 0)])
set_option maxRecDepth 1000000 in
theorem k_277_7 : ckM 175 [(0, 0)] [] (fun _ => false) 20000 1 0 os_277 [c_277_7] c_277_7 = true := by decide +kernel
set_option maxRecDepth 100000 in
theorem ok_277_7 {l : Launch} (htr : l.stackTraces = false) {sb : eSB} (hvs : sb.1 60 = 1) {D : va_G} {cA : Nat → ClassId} : ctH l sb D cA 175 6 [(0, 4097, 224, 255)] ([(224, 255)], []) [] (os_277.map (fun w => w.1)) := ctH_of htr hvs (M := 175) (by decide) (lev := 5) (by decide) (L := []) (by decide +kernel) (fun _ h => absurd h List.not_mem_nil) (n := 20000) (sp := [(0, 0)]) (isC := fun _ => false) (c0 := c_277_7) (K := []) (by decide +kernel) rfl (List.forall_mem_cons.mpr ⟨k_277_7, (fun _ h => absurd h List.not_mem_nil)⟩)
def c_277_8 : eCut := ((0, eArgs 0 [(0, 4097, 256, 287)], [], ([(256, 287)], []), [], 0, 0), [], [(900000, 0, 0)])
set_option maxRecDepth 1000000 in
theorem k_277_8 : ckM 175 [(0, 0)] [] (fun _ => false) 20000 1 0 os_277 [c_277_8] c_277_8 = true := by decide +kernel
set_option maxRecDepth 100000 in
theorem ok_277_8 {l : Launch} (htr : l.stackTraces = false) {sb : eSB} (hvs : sb.1 60 = 1) {D : va_G} {cA : Nat → ClassId} : ctH l sb D cA 175 6 [(0, 4097, 256, 287)] ([(256, 287)], []) [] (os_277.map (fun w => w.1)) := ctH_of htr hvs (M := 175) (by decide) (lev := 5) (by decide) (L := []) (by decide +kernel) (fun _ h => absurd h List.not_mem_nil) (n := 20000) (sp := [(0, 0)]) (isC := fun _ => false) (c0 := c_277_8) (K := []) (by decide +kernel) rfl (List.forall_mem_cons.mpr ⟨k_277_8, (fun _ h => absurd h List.not_mem_nil)⟩)
def c_277_9 : eCut := ((0, eArgs 0 [(0, 4097, 288, 319)], [], ([(288, 319)], []), [], 0, 0), [], [(900000, 0, 0)])
set_option maxRecDepth 1000000 in
theorem k_277_9 : ckM 175 [(0, 0)] [] (fun _ => false) 20000 1 0 os_277 [c_277_9] c_277_9 = true := by decide +kernel
set_option maxRecDepth 100000 in
theorem ok_277_9 {l : Launch} (htr : l.stackTraces = false) {sb : eSB} (hvs : sb.1 60 = 1) {D : va_G} {cA : Nat → ClassId} : ctH l sb D cA 175 6 [(0, 4097, 288, 319)] ([(288, 319)], []) [] (os_277.map (fun w => w.1)) := ctH_of htr hvs (M := 175) (by decide) (lev := 5) (by decide) (L := []) (by decide +kernel) (fun _ h => absurd h List.not_mem_nil) (n := 20000) (sp := [(0, 0)]) (isC := fun _ => false) (c0 := c_277_9) (K := []) (by decide +kernel) rfl (List.forall_mem_cons.mpr ⟨k_277_9, (fun _ h => absurd h List.not_mem_nil)⟩)
def c_277_10 : eCut := ((0, eArgs 0 [(0, 4097, 320, 351)], [], ([(320, 351)], []), [], 0, 0), [], [(900000, 0, 0)])
set_option maxRecDepth 1000000 in
theorem k_277_10 : ckM 175 [(0, 0)] [] (fun _ => false) 20000 1 0 os_277 [c_277_10] c_277_10 = true := by decide +kernel
set_option maxRecDepth 100000 in
theorem ok_277_10 {l : Launch} (htr : l.stackTraces = false) {sb : eSB} (hvs : sb.1 60 = 1) {D : va_G} {cA : Nat → ClassId} : ctH l sb D cA 175 6 [(0, 4097, 320, 351)] ([(320, 351)], []) [] (os_277.map (fun w => w.1)) := ctH_of htr hvs (M := 175) (by decide) (lev := 5) (by decide) (L := []) (by decide +kernel) (fun _ h => absurd h List.not_mem_nil) (n := 20000) (sp := [(0, 0)]) (isC := fun _ => false) (c0 := c_277_10) (K := []) (by decide +kernel) rfl (List.forall_mem_cons.mpr ⟨k_277_10, (fun _ h => absurd h List.not_mem_nil)⟩)
def c_277_11 : eCut := ((0, eArgs 0 [(0, 4097, 352, 383)], [], ([(352, 383)], []), [], 0, 0), [], [(900000, 0, 0)])
set_option maxRecDepth 1000000 in
theorem k_277_11 : ckM 175 [(0, 0)] [] (fun _ => false) 20000 1 0 os_277 [c_277_11] c_277_11 = true := by decide +kernel
set_option maxRecDepth 100000 in
theorem ok_277_11 {l : Launch} (htr : l.stackTraces = false) {sb : eSB} (hvs : sb.1 60 = 1) {D : va_G} {cA : Nat → ClassId} : ctH l sb D cA 175 6 [(0, 4097, 352, 383)] ([(352, 383)], []) [] (os_277.map (fun w => w.1)) := ctH_of htr hvs (M := 175) (by decide) (lev := 5) (by decide) (L := []) (by decide +kernel) (fun _ h => absurd h List.not_mem_nil) (n := 20000) (sp := [(0, 0)]) (isC := fun _ => false) (c0 := c_277_11) (K := []) (by decide +kernel) rfl (List.forall_mem_cons.mpr ⟨k_277_11, (fun _ h => absurd h List.not_mem_nil)⟩)
def c_277_12 : eCut := ((0, eArgs 0 [(0, 4097, 384, 415)], [], ([(384, 415)], []), [], 0, 0), [], [(900000, 0, 0)])
set_option maxRecDepth 1000000 in
theorem k_277_12 : ckM 175 [(0, 0)] [] (fun _ => false) 20000 1 0 os_277 [c_277_12] c_277_12 = true := by decide +kernel
set_option maxRecDepth 100000 in
theorem ok_277_12 {l : Launch} (htr : l.stackTraces = false) {sb : eSB} (hvs : sb.1 60 = 1) {D : va_G} {cA : Nat → ClassId} : ctH l sb D cA 175 6 [(0, 4097, 384, 415)] ([(384, 415)], []) [] (os_277.map (fun w => w.1)) := ctH_of htr hvs (M := 175) (by decide) (lev := 5) (by decide) (L := []) (by decide +kernel) (fun _ h => absurd h List.not_mem_nil) (n := 20000) (sp := [(0, 0)]) (isC := fun _ => false) (c0 := c_277_12) (K := []) (by decide +kernel) rfl (List.forall_mem_cons.mpr ⟨k_277_12, (fun _ h => absurd h List.not_mem_nil)⟩)
def c_277_13 : eCut := ((0, eArgs 0 [(0, 4097, 416, 447)], [], ([(416, 447)], []), [], 0, 0), [], [(900000, 0, 0)])
set_option maxRecDepth 1000000 in
theorem k_277_13 : ckM 175 [(0, 0)] [] (fun _ => false) 20000 1 0 os_277 [c_277_13] c_277_13 = true := by decide +kernel
set_option maxRecDepth 100000 in
theorem ok_277_13 {l : Launch} (htr : l.stackTraces = false) {sb : eSB} (hvs : sb.1 60 = 1) {D : va_G} {cA : Nat → ClassId} : ctH l sb D cA 175 6 [(0, 4097, 416, 447)] ([(416, 447)], []) [] (os_277.map (fun w => w.1)) := ctH_of htr hvs (M := 175) (by decide) (lev := 5) (by decide) (L := []) (by decide +kernel) (fun _ h => absurd h List.not_mem_nil) (n := 20000) (sp := [(0, 0)]) (isC := fun _ => false) (c0 := c_277_13) (K := []) (by decide +kernel) rfl (List.forall_mem_cons.mpr ⟨k_277_13, (fun _ h => absurd h List.not_mem_nil)⟩)
def c_277_14 : eCut := ((0, eArgs 0 [(0, 4097, 448, 479)], [], ([(448, 479)], []), [], 0, 0), [], [(900000, 0, 0)])
set_option maxRecDepth 1000000 in
theorem k_277_14 : ckM 175 [(0, 0)] [] (fun _ => false) 20000 1 0 os_277 [c_277_14] c_277_14 = true := by decide +kernel
set_option maxRecDepth 100000 in
theorem ok_277_14 {l : Launch} (htr : l.stackTraces = false) {sb : eSB} (hvs : sb.1 60 = 1) {D : va_G} {cA : Nat → ClassId} : ctH l sb D cA 175 6 [(0, 4097, 448, 479)] ([(448, 479)], []) [] (os_277.map (fun w => w.1)) := ctH_of htr hvs (M := 175) (by decide) (lev := 5) (by decide) (L := []) (by decide +kernel) (fun _ h => absurd h List.not_mem_nil) (n := 20000) (sp := [(0, 0)]) (isC := fun _ => false) (c0 := c_277_14) (K := []) (by decide +kernel) rfl (List.forall_mem_cons.mpr ⟨k_277_14, (fun _ h => absurd h List.not_mem_nil)⟩)
def c_277_15 : eCut := ((0, eArgs 0 [(0, 4097, 480, 511)], [], ([(480, 511)], []), [], 0, 0), [], [(900000, 0, 0)])
set_option maxRecDepth 1000000 in
theorem k_277_15 : ckM 175 [(0, 0)] [] (fun _ => false) 20000 1 0 os_277 [c_277_15] c_277_15 = true := by decide +kernel
set_option maxRecDepth 100000 in
theorem ok_277_15 {l : Launch} (htr : l.stackTraces = false) {sb : eSB} (hvs : sb.1 60 = 1) {D : va_G} {cA : Nat → ClassId} : ctH l sb D cA 175 6 [(0, 4097, 480, 511)] ([(480, 511)], []) [] (os_277.map (fun w => w.1)) := ctH_of htr hvs (M := 175) (by decide) (lev := 5) (by decide) (L := []) (by decide +kernel) (fun _ h => absurd h List.not_mem_nil) (n := 20000) (sp := [(0, 0)]) (isC := fun _ => false) (c0 := c_277_15) (K := []) (by decide +kernel) rfl (List.forall_mem_cons.mpr ⟨k_277_15, (fun _ h => absurd h List.not_mem_nil)⟩)
def c_277_16 : eCut := ((0, eArgs 0 [(0, 4097, 512, 543)], [], ([(512, 543)], []), [], 0, 0), [], [(900000, 0, 0)])
set_option maxRecDepth 1000000 in
theorem k_277_16 : ckM 175 [(0, 0)] [] (fun _ => false) 20000 1 0 os_277 [c_277_16] c_277_16 = true := by decide +kernel
set_option maxRecDepth 100000 in
theorem ok_277_16 {l : Launch} (htr : l.stackTraces = false) {sb : eSB} (hvs : sb.1 60 = 1) {D : va_G} {cA : Nat → ClassId} : ctH l sb D cA 175 6 [(0, 4097, 512, 543)] ([(512, 543)], []) [] (os_277.map (fun w => w.1)) := ctH_of htr hvs (M := 175) (by decide) (lev := 5) (by decide) (L := []) (by decide +kernel) (fun _ h => absurd h List.not_mem_nil) (n := 20000) (sp := [(0, 0)]) (isC := fun _ => false) (c0 := c_277_16) (K := []) (by decide +kernel) rfl (List.forall_mem_cons.mpr ⟨k_277_16, (fun _ h => absurd h List.not_mem_nil)⟩)
def c_277_17 : eCut := ((0, eArgs 0 [(0, 4097, 544, 575)], [], ([(544, 575)], []), [], 0, 0), [], [(900000, 0, 0)])
set_option maxRecDepth 1000000 in
theorem k_277_17 : ckM 175 [(0, 0)] [] (fun _ => false) 20000 1 0 os_277 [c_277_17] c_277_17 = true := by decide +kernel
set_option maxRecDepth 100000 in
theorem ok_277_17 {l : Launch} (htr : l.stackTraces = false) {sb : eSB} (hvs : sb.1 60 = 1) {D : va_G} {cA : Nat → ClassId} : ctH l sb D cA 175 6 [(0, 4097, 544, 575)] ([(544, 575)], []) [] (os_277.map (fun w => w.1)) := ctH_of htr hvs (M := 175) (by decide) (lev := 5) (by decide) (L := []) (by decide +kernel) (fun _ h => absurd h List.not_mem_nil) (n := 20000) (sp := [(0, 0)]) (isC := fun _ => false) (c0 := c_277_17) (K := []) (by decide +kernel) rfl (List.forall_mem_cons.mpr ⟨k_277_17, (fun _ h => absurd h List.not_mem_nil)⟩)
def c_277_18 : eCut := ((0, eArgs 0 [(0, 4097, 576, 607)], [], ([(576, 607)], []), [], 0, 0), [], [(900000, 0, 0)])
