/-! ===== THE LAW, 5: turns ===== -/
set_option maxRecDepth 1000000 in
theorem tn_892 : turnB2 (hSb 892) = true := by decide +kernel
set_option maxRecDepth 1000000 in
theorem tn_920 : turnB2 (hSb 920) = true := by decide +kernel
set_option maxRecDepth 1000000 in
theorem tn_933 : turnB2 (hSb 933) = true := by decide +kernel
set_option maxRecDepth 1000000 in
theorem tn_961 : turnB2 (hSb 961) = true := by decide +kernel
set_option maxRecDepth 1000000 in
theorem tn_989 : turnB2 (hSb 989) = true := by decide +kernel
