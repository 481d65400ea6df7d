/-! ===== THE TABLES, 6: the law's rows, on ===== -/
set_option maxRecDepth 100000 in
theorem rl_10 : (List.range 120).all (fun k => rwL (1102 + k)) = true := by decide +kernel
set_option maxRecDepth 100000 in
theorem rl_11 : (List.range 120).all (fun k => rwL (1222 + k)) = true := by decide +kernel
set_option maxRecDepth 100000 in
theorem rl_12 : (List.range 120).all (fun k => rwL (1342 + k)) = true := by decide +kernel
set_option maxRecDepth 100000 in
theorem rl_13 : (List.range 96).all (fun k => rwL (1462 + k)) = true := by decide +kernel
