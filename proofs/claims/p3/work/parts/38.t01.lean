/-! ===== THE LAW, 5: turns ===== -/
set_option maxRecDepth 1000000 in
theorem tn_422 : turnB2 (hSb 422) = true := by decide +kernel
set_option maxRecDepth 1000000 in
theorem tn_462 : turnB2 (hSb 462) = true := by decide +kernel
set_option maxRecDepth 1000000 in
theorem tn_502 : turnB2 (hSb 502) = true := by decide +kernel
set_option maxRecDepth 1000000 in
theorem tn_527 : turnB2 (hSb 527) = true := by decide +kernel
set_option maxRecDepth 1000000 in
theorem tn_567 : turnB2 (hSb 567) = true := by decide +kernel
