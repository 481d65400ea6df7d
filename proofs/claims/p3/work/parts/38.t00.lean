/-! ===== THE LAW, 5: turns ===== -/
set_option maxRecDepth 1000000 in
theorem tn_212 : turnB2 (hSb 212) = true := by decide +kernel
set_option maxRecDepth 1000000 in
theorem tn_285 : turnB2 (hSb 285) = true := by decide +kernel
set_option maxRecDepth 1000000 in
theorem tn_341 : turnB2 (hSb 341) = true := by decide +kernel
set_option maxRecDepth 1000000 in
theorem tn_354 : turnB2 (hSb 354) = true := by decide +kernel
set_option maxRecDepth 1000000 in
theorem tn_382 : turnB2 (hSb 382) = true := by decide +kernel
