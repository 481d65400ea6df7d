/-! ===== THE LAW, 5: turns ===== -/
set_option maxRecDepth 1000000 in
theorem tn_1287 : turnB2 (hSb 1287) = true := by decide +kernel
set_option maxRecDepth 1000000 in
theorem tn_1351 : turnB2 (hSb 1351) = true := by decide +kernel
set_option maxRecDepth 1000000 in
theorem tn_1403 : turnB2 (hSb 1403) = true := by decide +kernel
set_option maxRecDepth 1000000 in
theorem tn_1414 : turnB2 (hSb 1414) = true := by decide +kernel
set_option maxRecDepth 1000000 in
theorem tn_1427 : turnB2 (hSb 1427) = true := by decide +kernel
