/-! ===== THE LAW, 5: turns ===== -/
set_option maxRecDepth 1000000 in
theorem tn_394 : turnB (chF usL) hTH hHead (hSb 394) = true := by decide +kernel
set_option maxRecDepth 1000000 in
theorem tn_434 : turnB (chF usL) hTH hHead (hSb 434) = true := by decide +kernel
set_option maxRecDepth 1000000 in
theorem tn_474 : turnB (chF usL) hTH hHead (hSb 474) = true := by decide +kernel
set_option maxRecDepth 1000000 in
theorem tn_499 : turnB (chF usL) hTH hHead (hSb 499) = true := by decide +kernel
set_option maxRecDepth 1000000 in
theorem tn_539 : turnB (chF usL) hTH hHead (hSb 539) = true := by decide +kernel
