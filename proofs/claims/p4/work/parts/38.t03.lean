/-! ===== THE LAW, 5: turns ===== -/
set_option maxRecDepth 1000000 in
theorem tn_740 : turnB2 (hSb 740) = true := by decide +kernel
set_option maxRecDepth 1000000 in
theorem tn_768 : turnB2 (hSb 768) = true := by decide +kernel
set_option maxRecDepth 1000000 in
theorem tn_796 : turnB2 (hSb 796) = true := by decide +kernel
set_option maxRecDepth 1000000 in
theorem tn_836 : turnB2 (hSb 836) = true := by decide +kernel
set_option maxRecDepth 1000000 in
theorem tn_864 : turnB2 (hSb 864) = true := by decide +kernel
