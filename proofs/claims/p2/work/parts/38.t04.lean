/-! ===== THE LAW, 5: turns ===== -/
set_option maxRecDepth 1000000 in
theorem tn_892 : turnB (chF usL) hTH hHead (hSb 892) = true := by decide +kernel
set_option maxRecDepth 1000000 in
theorem tn_920 : turnB (chF usL) hTH hHead (hSb 920) = true := by decide +kernel
set_option maxRecDepth 1000000 in
theorem tn_933 : turnB (chF usL) hTH hHead (hSb 933) = true := by decide +kernel
set_option maxRecDepth 1000000 in
theorem tn_961 : turnB (chF usL) hTH hHead (hSb 961) = true := by decide +kernel
set_option maxRecDepth 1000000 in
theorem tn_989 : turnB (chF usL) hTH hHead (hSb 989) = true := by decide +kernel
