/-! ===== THE LAW, 5: turns ===== -/
set_option maxRecDepth 1000000 in
theorem tn_1017 : turnB2 (hSb 1017) = true := by decide +kernel
set_option maxRecDepth 1000000 in
theorem tn_1045 : turnB2 (hSb 1045) = true := by decide +kernel
set_option maxRecDepth 1000000 in
theorem tn_1073 : turnB2 (hSb 1073) = true := by decide +kernel
set_option maxRecDepth 1000000 in
theorem tn_1086 : turnB2 (hSb 1086) = true := by decide +kernel
set_option maxRecDepth 1000000 in
theorem tn_1114 : turnB2 (hSb 1114) = true := by decide +kernel
