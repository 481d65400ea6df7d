/-! ===== THE LAW, 5: turns ===== -/
set_option maxRecDepth 1000000 in
theorem tn_607 : turnB2 (hSb 607) = true := by decide +kernel
set_option maxRecDepth 1000000 in
theorem tn_635 : turnB2 (hSb 635) = true := by decide +kernel
set_option maxRecDepth 1000000 in
theorem tn_663 : turnB2 (hSb 663) = true := by decide +kernel
set_option maxRecDepth 1000000 in
theorem tn_703 : turnB2 (hSb 703) = true := by decide +kernel
set_option maxRecDepth 1000000 in
theorem tn_716 : turnB2 (hSb 716) = true := by decide +kernel
