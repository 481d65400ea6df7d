/-! ===== THE LAW, 5: turns ===== -/
set_option maxRecDepth 1000000 in
theorem tn_1170 : turnB2 (hSb 1170) = true := by decide +kernel
set_option maxRecDepth 1000000 in
theorem tn_1183 : turnB2 (hSb 1183) = true := by decide +kernel
set_option maxRecDepth 1000000 in
theorem tn_1220 : turnB2 (hSb 1220) = true := by decide +kernel
set_option maxRecDepth 1000000 in
theorem tn_1248 : turnB2 (hSb 1248) = true := by decide +kernel
set_option maxRecDepth 1000000 in
theorem tn_1276 : turnB2 (hSb 1276) = true := by decide +kernel
