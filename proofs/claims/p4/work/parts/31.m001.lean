/-! ===== CONTRACTS, 31.m001 ===== -/
set_option maxRecDepth 1000000 in
theorem k_205_5 : ckM 175 [(0, 0)] [] (fun _ => false) 20000 1 0 os_205 [c_205_5] c_205_5 = true := by decide +kernel
def c_205_6 : eCut := ((0, eArgs 0 [(0, 4097, 192, 223)], [], ([(192, 223)], []), [], 0, 0), [], [(900000, 0, 0)])
set_option maxRecDepth 1000000 in
theorem k_205_6 : ckM 175 [(0, 0)] [] (fun _ => false) 20000 1 0 os_205 [c_205_6] c_205_6 = true := by decide +kernel
def c_205_7 : eCut := ((0, eArgs 0 [(0, 4097, 224, 255)], [], ([(224, 255)], []), [], 0, 0), [], [(900000, 0, 0)])
set_option maxRecDepth 1000000 in
theorem k_205_7 : ckM 175 [(0, 0)] [] (fun _ => false) 20000 1 0 os_205 [c_205_7] c_205_7 = true := by decide +kernel
def c_205_8 : eCut := ((0, eArgs 0 [(0, 4097, 256, 287)], [], ([(256, 287)], []), [], 0, 0), [], [(900000, 0, 0)])
set_option maxRecDepth 1000000 in
theorem k_205_8 : ckM 175 [(0, 0)] [] (fun _ => false) 20000 1 0 os_205 [c_205_8] c_205_8 = true := by decide +kernel
def c_205_9 : eCut := ((0, eArgs 0 [(0, 4097, 288, 319)], [], ([(288, 319)], []), [], 0, 0), [], [(900000, 0, 0)])
set_option maxRecDepth 1000000 in
theorem k_205_9 : ckM 175 [(0, 0)] [] (fun _ => false) 20000 1 0 os_205 [c_205_9] c_205_9 = true := by decide +kernel
def c_205_10 : eCut := ((0, eArgs 0 [(0, 4097, 320, 351)], [], ([(320, 351)], []), [], 0, 0), [], [(900000, 0, 0)])
set_option maxRecDepth 1000000 in
theorem k_205_10 : ckM 175 [(0, 0)] [] (fun _ => false) 20000 1 0 os_205 [c_205_10] c_205_10 = true := by decide +kernel
def c_205_11 : eCut := ((0, eArgs 0 [(0, 4097, 352, 383)], [], ([(352, 383)], []), [], 0, 0), [], [(900000, 0, 0)])
set_option maxRecDepth 1000000 in
theorem k_205_11 : ckM 175 [(0, 0)] [] (fun _ => false) 20000 1 0 os_205 [c_205_11] c_205_11 = true := by decide +kernel
def c_205_12 : eCut := ((0, eArgs 0 [(0, 4097, 384, 415)], [], ([(384, 415)], []), [], 0, 0), [], [(900000, 0, 0)])
set_option maxRecDepth 1000000 in
theorem k_205_12 : ckM 175 [(0, 0)] [] (fun _ => false) 20000 1 0 os_205 [c_205_12] c_205_12 = true := by decide +kernel
def c_205_13 : eCut := ((0, eArgs 0 [(0, 4097, 416, 447)], [], ([(416, 447)], []), [], 0, 0), [], [(900000, 0, 0)])
set_option maxRecDepth 1000000 in
theorem k_205_13 : ckM 175 [(0, 0)] [] (fun _ => false) 20000 1 0 os_205 [c_205_13] c_205_13 = true := by decide +kernel
def c_205_14 : eCut := ((0, eArgs 0 [(0, 4097, 448, 479)], [], ([(448, 479)], []), [], 0, 0), [], [(900000, 0, 0)])
set_option maxRecDepth 1000000 in
theorem k_205_14 : ckM 175 [(0, 0)] [] (fun _ => false) 20000 1 0 os_205 [c_205_14] c_205_14 = true := by decide +kernel
def c_205_15 : eCut := ((0, eArgs 0 [(0, 4097, 480, 511)], [], ([(480, 511)], []), [], 0, 0), [], [(900000, 0, 0)])
set_option maxRecDepth 1000000 in
theorem k_205_15 : ckM 175 [(0, 0)] [] (fun _ => false) 20000 1 0 os_205 [c_205_15] c_205_15 = true := by decide +kernel
def c_205_16 : eCut := ((0, eArgs 0 [(0, 4097, 512, 543)], [], ([(512, 543)], []), [], 0, 0), [], [(900000, 0, 0)])
set_option maxRecDepth 1000000 in
theorem k_205_16 : ckM 175 [(0, 0)] [] (fun _ => false) 20000 1 0 os_205 [c_205_16] c_205_16 = true := by decide +kernel
def c_205_17 : eCut := ((0, eArgs 0 [(0, 4097, 544, 575)], [], ([(544, 575)], []), [], 0, 0), [], [(900000, 0, 0)])
