/-! ===== THE LAW, 5: turns ===== -/
set_option maxRecDepth 1000000 in
theorem tn_394 : turnB2 (hSb 394) = true := by decide +kernel
set_option maxRecDepth 1000000 in
theorem tn_434 : turnB2 (hSb 434) = true := by decide +kernel
set_option maxRecDepth 1000000 in
theorem tn_474 : turnB2 (hSb 474) = true := by decide +kernel
set_option maxRecDepth 1000000 in
theorem tn_499 : turnB2 (hSb 499) = true := by decide +kernel
set_option maxRecDepth 1000000 in
theorem tn_539 : turnB2 (hSb 539) = true := by decide +kernel
