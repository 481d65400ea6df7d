/-! ===== CONTRACTS, 31.m002 ===== -/
set_option maxRecDepth 1000000 in
theorem k_205_17 : ckM 175 [(0, 0)] [] (fun _ => false) 20000 1 0 os_205 [c_205_17] c_205_17 = true := by decide +kernel
def c_205_18 : eCut := ((0, eArgs 0 [(0, 4097, 576, 607)], [], ([(576, 607)], []), [], 0, 0), [], [(900000, 0, 0)])
set_option maxRecDepth 1000000 in
theorem k_205_18 : ckM 175 [(0, 0)] [] (fun _ => false) 20000 1 0 os_205 [c_205_18] c_205_18 = true := by decide +kernel
def c_205_19 : eCut := ((0, eArgs 0 [(0, 4097, 608, 639)], [], ([(608, 639)], []), [], 0, 0), [], [(900000, 0, 0)])
set_option maxRecDepth 1000000 in
theorem k_205_19 : ckM 175 [(0, 0)] [] (fun _ => false) 20000 1 0 os_205 [c_205_19] c_205_19 = true := by decide +kernel
def c_205_20 : eCut := ((0, eArgs 0 [(0, 4097, 640, 671)], [], ([(640, 671)], []), [], 0, 0), [], [(900000, 0, 0)])
set_option maxRecDepth 1000000 in
theorem k_205_20 : ckM 175 [(0, 0)] [] (fun _ => false) 20000 1 0 os_205 [c_205_20] c_205_20 = true := by decide +kernel
def c_205_21 : eCut := ((0, eArgs 0 [(0, 4097, 672, 703)], [], ([(672, 703)], []), [], 0, 0), [], [(900000, 0, 0)])
set_option maxRecDepth 1000000 in
theorem k_205_21 : ckM 175 [(0, 0)] [] (fun _ => false) 20000 1 0 os_205 [c_205_21] c_205_21 = true := by decide +kernel
def c_205_22 : eCut := ((0, eArgs 0 [(0, 4097, 704, 735)], [], ([(704, 735)], []), [], 0, 0), [], [(900000, 0, 0)])
set_option maxRecDepth 1000000 in
theorem k_205_22 : ckM 175 [(0, 0)] [] (fun _ => false) 20000 1 0 os_205 [c_205_22] c_205_22 = true := by decide +kernel
def c_205_23 : eCut := ((0, eArgs 0 [(0, 4097, 736, 767)], [], ([(736, 767)], []), [], 0, 0), [], [(900000, 0, 0)])
set_option maxRecDepth 1000000 in
theorem k_205_23 : ckM 175 [(0, 0)] [] (fun _ => false) 20000 1 0 os_205 [c_205_23] c_205_23 = true := by decide +kernel
def c_205_24 : eCut := ((0, eArgs 0 [(0, 4097, 768, 799)], [], ([(768, 799)], []), [], 0, 0), [], [(900000, 0, 0)])
set_option maxRecDepth 1000000 in
theorem k_205_24 : ckM 175 [(0, 0)] [] (fun _ => false) 20000 1 0 os_205 [c_205_24] c_205_24 = true := by decide +kernel
def c_205_25 : eCut := ((0, eArgs 0 [(0, 4097, 800, 831)], [], ([(800, 831)], []), [], 0, 0), [], [(900000, 0, 0)])
set_option maxRecDepth 1000000 in
theorem k_205_25 : ckM 175 [(0, 0)] [] (fun _ => false) 20000 1 0 os_205 [c_205_25] c_205_25 = true := by decide +kernel
def c_205_26 : eCut := ((0, eArgs 0 [(0, 4097, 832, 863)], [], ([(832, 863)], []), [], 0, 0), [], [(900000, 0, 0)])
set_option maxRecDepth 1000000 in
theorem k_205_26 : ckM 175 [(0, 0)] [] (fun _ => false) 20000 1 0 os_205 [c_205_26] c_205_26 = true := by decide +kernel
def c_205_27 : eCut := ((0, eArgs 0 [(0, 4097, 864, 895)], [], ([(864, 895)], []), [], 0, 0), [], [(900000, 0, 0)])
set_option maxRecDepth 1000000 in
theorem k_205_27 : ckM 175 [(0, 0)] [] (fun _ => false) 20000 1 0 os_205 [c_205_27] c_205_27 = true := by decide +kernel
def c_205_28 : eCut := ((0, eArgs 0 [(0, 4097, 896, 927)], [], ([(896, 927)], []), [], 0, 0), [], [(900000, 0, 0)])
set_option maxRecDepth 1000000 in
theorem k_205_28 : ckM 175 [(0, 0)] [] (fun _ => false) 20000 1 0 os_205 [c_205_28] c_205_28 = true := by decide +kernel
def c_205_29 : eCut := ((0, eArgs 0 [(0, 4097, 928, 959)], [], ([(928, 959)], []), [], 0, 0), [], [(900000, 0, 0)])
