/-! ===== THE LAW, 5: runs ===== -/
set_option maxRecDepth 1000000 in
theorem pre_ok : lawPre = true := by decide +kernel
set_option maxRecDepth 1000000 in
theorem tab_ok : lawTab = true := by decide +kernel
set_option maxRecDepth 1000000 in
theorem short_ok : lawRun (fun _ => none) (fun _ => none) (some (0, 5)) S0 = true := by decide +kernel
set_option maxRecDepth 1000000 in
theorem case_2 : lawRun (fun _ => none) (fun _ => none) (some (6, 6)) (SL 341 []) = true := by decide +kernel
set_option maxRecDepth 1000000 in
theorem case_4 : lawRun (fun _ => none) (fun _ => none) (some (6, 6)) (SL 410 []) = true := by decide +kernel
set_option maxRecDepth 1000000 in
theorem case_13 : lawRun (fun _ => none) (fun _ => none) (some (6, 6)) (SL 969 []) = true := by decide +kernel
