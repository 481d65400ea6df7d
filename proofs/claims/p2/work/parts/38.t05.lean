/-! ===== THE LAW, 5: turns ===== -/
set_option maxRecDepth 1000000 in
theorem tn_1017 : turnB (chF usL) hTH hHead (hSb 1017) = true := by decide +kernel
set_option maxRecDepth 1000000 in
theorem tn_1045 : turnB (chF usL) hTH hHead (hSb 1045) = true := by decide +kernel
set_option maxRecDepth 1000000 in
theorem tn_1073 : turnB (chF usL) hTH hHead (hSb 1073) = true := by decide +kernel
set_option maxRecDepth 1000000 in
theorem tn_1086 : turnB (chF usL) hTH hHead (hSb 1086) = true := by decide +kernel
set_option maxRecDepth 1000000 in
theorem tn_1114 : turnB (chF usL) hTH hHead (hSb 1114) = true := by decide +kernel
