/-! ===== THE LAW, 5: turns ===== -/
set_option maxRecDepth 1000000 in
theorem tn_1142 : turnB2 (hSb 1142) = true := by decide +kernel
set_option maxRecDepth 1000000 in
theorem tn_1155 : turnB2 (hSb 1155) = true := by decide +kernel
set_option maxRecDepth 1000000 in
theorem tn_1192 : turnB2 (hSb 1192) = true := by decide +kernel
set_option maxRecDepth 1000000 in
theorem tn_1220 : turnB2 (hSb 1220) = true := by decide +kernel
set_option maxRecDepth 1000000 in
theorem tn_1248 : turnB2 (hSb 1248) = true := by decide +kernel
