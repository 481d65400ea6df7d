/-! ===== THE LAW, 5: turns ===== -/
set_option maxRecDepth 1000000 in
theorem tn_1045 : turnB2 (hSb 1045) = true := by decide +kernel
set_option maxRecDepth 1000000 in
theorem tn_1073 : turnB2 (hSb 1073) = true := by decide +kernel
set_option maxRecDepth 1000000 in
theorem tn_1101 : turnB2 (hSb 1101) = true := by decide +kernel
set_option maxRecDepth 1000000 in
theorem tn_1114 : turnB2 (hSb 1114) = true := by decide +kernel
set_option maxRecDepth 1000000 in
theorem tn_1142 : turnB2 (hSb 1142) = true := by decide +kernel
