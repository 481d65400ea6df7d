/-! ===== THE LAW, 6: runs (printed by wip/engine/gen5.py) ===== -/
set_option maxRecDepth 1000000 in
theorem pre_ok : lawPre = true := by decide +kernel
set_option maxRecDepth 1000000 in
theorem tab_ok : lawTab = true := by decide +kernel
set_option maxRecDepth 1000000 in
theorem short_ok : lawRun (fun _ => none) (fun _ => none) (some (0, 5)) S0 = true := by decide +kernel
set_option maxRecDepth 1000000 in
theorem case_0 : lawRun (fun _ => none) (fun _ => none) (some (6, 6)) (SL 212 []) = true := by decide +kernel
set_option maxRecDepth 1000000 in
theorem case_2 : lawRun (fun _ => none) (fun _ => none) (some (6, 6)) (SL 341 []) = true := by decide +kernel
set_option maxRecDepth 1000000 in
theorem case_3 : lawRun (fun _ => none) (fun _ => none) (some (6, 6)) (SL 354 []) = true := by decide +kernel
set_option maxRecDepth 1000000 in
theorem case_4 : lawRun (fun _ => none) (fun _ => none) (some (6, 6)) (SL 410 []) = true := by decide +kernel
set_option maxRecDepth 1000000 in
theorem case_5 : lawRun (fun _ => none) (fun _ => none) (some (6, 6)) (SL 478 []) = true := by decide +kernel
set_option maxRecDepth 1000000 in
theorem case_6 : lawRun (fun _ => none) (fun _ => none) (some (6, 6)) (SL 546 []) = true := by decide +kernel
set_option maxRecDepth 1000000 in
theorem case_8 : lawRun (fun _ => none) (fun _ => none) (some (6, 6)) (SL 639 []) = true := by decide +kernel
set_option maxRecDepth 1000000 in
theorem case_9 : lawRun (fun _ => none) (fun _ => none) (some (6, 6)) (SL 707 []) = true := by decide +kernel
set_option maxRecDepth 1000000 in
theorem case_10 : lawRun (fun _ => none) (fun _ => none) (some (6, 6)) (SL 775 []) = true := by decide +kernel
set_option maxRecDepth 1000000 in
theorem case_11 : lawRun (fun _ => none) (fun _ => none) (some (6, 6)) (SL 838 []) = true := by decide +kernel
set_option maxRecDepth 1000000 in
theorem case_12 : lawRun (fun _ => none) (fun _ => none) (some (6, 6)) (SL 901 []) = true := by decide +kernel
set_option maxRecDepth 1000000 in
theorem case_13 : lawRun (fun _ => none) (fun _ => none) (some (6, 6)) (SL 969 []) = true := by decide +kernel
set_option maxRecDepth 1000000 in
theorem case_14 : lawRun (fun _ => none) (fun _ => none) (some (6, 6)) (SL 982 []) = true := by decide +kernel
set_option maxRecDepth 1000000 in
theorem case_15 : lawRun (fun _ => none) (fun _ => none) (some (6, 6)) (SL 1062 []) = true := by decide +kernel
set_option maxRecDepth 1000000 in
theorem case_16 : lawRun (fun _ => none) (fun _ => none) (some (6, 6)) (SL 1118 []) = true := by decide +kernel
set_option maxRecDepth 1000000 in
theorem case_18 : lawRun (fun _ => none) (fun _ => none) (some (6, 6)) (SL 1242 []) = true := by decide +kernel
set_option maxRecDepth 1000000 in
theorem case_19 : lawRun (fun _ => none) (fun _ => none) (some (6, 6)) (SL 1298 []) = true := by decide +kernel
set_option maxRecDepth 1000000 in
theorem case_20 : lawRun (fun _ => none) (fun _ => none) (some (6, 6)) (SL 1354 []) = true := by decide +kernel
set_option maxRecDepth 1000000 in
theorem case_21 : lawRun (fun _ => none) (fun _ => none) (some (6, 6)) (SL 1410 []) = true := by decide +kernel
set_option maxRecDepth 1000000 in
theorem case_26 : lawRun (fun _ => none) (fun _ => none) (some (6, 6)) (SL 1647 []) = true := by decide +kernel
set_option maxRecDepth 1000000 in
theorem case_27 : lawRun (fun _ => none) (fun _ => none) (some (6, 6)) (SL 1703 []) = true := by decide +kernel
set_option maxRecDepth 1000000 in
theorem case_28 : lawRun (fun _ => none) (fun _ => none) (some (6, 6)) (SL 1716 []) = true := by decide +kernel
set_option maxRecDepth 1000000 in
theorem case_29 : lawRun (fun _ => none) (fun _ => none) (some (6, 6)) (SL 1772 []) = true := by decide +kernel
set_option maxRecDepth 1000000 in
theorem case_30 : lawRun (fun _ => none) (fun _ => none) (some (6, 6)) (SL 1828 []) = true := by decide +kernel
set_option maxRecDepth 1000000 in
theorem case_31 : lawRun (fun _ => none) (fun _ => none) (some (6, 6)) (SL 1841 []) = true := by decide +kernel
set_option maxRecDepth 1000000 in
theorem case_32 : lawRun (fun _ => none) (fun _ => none) (some (6, 6)) (SL 1878 []) = true := by decide +kernel
set_option maxRecDepth 1000000 in
theorem case_33 : lawRun (fun _ => none) (fun _ => none) (some (6, 6)) (SL 1934 []) = true := by decide +kernel
set_option maxRecDepth 1000000 in
theorem case_34 : lawRun (fun _ => none) (fun _ => none) (some (6, 6)) (SL 1990 []) = true := by decide +kernel
set_option maxRecDepth 1000000 in
theorem case_35 : lawRun (fun _ => none) (fun _ => none) (some (6, 6)) (SL 2001 []) = true := by decide +kernel
set_option maxRecDepth 1000000 in
theorem case_38 : lawRun (fun _ => none) (fun _ => none) (some (6, 6)) (SL 2184 []) = true := by decide +kernel
set_option maxRecDepth 1000000 in
theorem case_39 : lawRun (fun _ => none) (fun _ => none) (some (6, 6)) (SL 2197 []) = true := by decide +kernel
