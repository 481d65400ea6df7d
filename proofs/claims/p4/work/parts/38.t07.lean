/-! ===== THE LAW, 5: turns ===== -/
set_option maxRecDepth 1000000 in
theorem tn_1259 : turnB2 (hSb 1259) = true := by decide +kernel
set_option maxRecDepth 1000000 in
theorem tn_1323 : turnB2 (hSb 1323) = true := by decide +kernel
set_option maxRecDepth 1000000 in
theorem tn_1375 : turnB2 (hSb 1375) = true := by decide +kernel
set_option maxRecDepth 1000000 in
theorem tn_1386 : turnB2 (hSb 1386) = true := by decide +kernel
set_option maxRecDepth 1000000 in
theorem tn_1399 : turnB2 (hSb 1399) = true := by decide +kernel
