/-! ===== THE TABLES, 6: the law's rows, on ===== -/
set_option maxRecDepth 100000 in
theorem rl_14 : (List.range 120).all (fun k => rwL (1558 + k)) = true := by decide +kernel
set_option maxRecDepth 100000 in
theorem rl_15 : (List.range 120).all (fun k => rwL (1678 + k)) = true := by decide +kernel
set_option maxRecDepth 100000 in
theorem rl_16 : (List.range 111).all (fun k => rwL (1798 + k)) = true := by decide +kernel
