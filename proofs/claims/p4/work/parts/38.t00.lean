/-! ===== THE LAW, 5: turns ===== -/
set_option maxRecDepth 1000000 in
theorem tn_212 : turnB2 (hSb 212) = true := by decide +kernel
set_option maxRecDepth 1000000 in
theorem tn_285 : turnB2 (hSb 285) = true := by decide +kernel
set_option maxRecDepth 1000000 in
theorem tn_313 : turnB2 (hSb 313) = true := by decide +kernel
set_option maxRecDepth 1000000 in
theorem tn_326 : turnB2 (hSb 326) = true := by decide +kernel
set_option maxRecDepth 1000000 in
theorem tn_354 : turnB2 (hSb 354) = true := by decide +kernel
