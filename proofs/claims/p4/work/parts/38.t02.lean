/-! ===== THE LAW, 5: turns ===== -/
set_option maxRecDepth 1000000 in
theorem tn_579 : turnB2 (hSb 579) = true := by decide +kernel
set_option maxRecDepth 1000000 in
theorem tn_607 : turnB2 (hSb 607) = true := by decide +kernel
set_option maxRecDepth 1000000 in
theorem tn_635 : turnB2 (hSb 635) = true := by decide +kernel
set_option maxRecDepth 1000000 in
theorem tn_675 : turnB2 (hSb 675) = true := by decide +kernel
set_option maxRecDepth 1000000 in
theorem tn_688 : turnB2 (hSb 688) = true := by decide +kernel
