/-! ===== THE LAW, 6: runs (printed by wip/engine/gen5.py) ===== -/
set_option maxRecDepth 1000000 in
theorem case_7_0 : lawRun (fun _ => none) (fun _ => none) (some (6, 6)) (SB 614 (B0.set 1 ((-2147483648), 5))) = true := by decide +kernel
set_option maxRecDepth 1000000 in
theorem case_7_1 : lawRun (fun _ => none) (fun _ => none) (some (6, 6)) (SB 614 ((B0.set 1 (6, 2147483647)).set 1 (6, 10))) = true := by decide +kernel
set_option maxRecDepth 1000000 in
theorem case_7_2 : lawRun (fun _ => none) (fun _ => none) (some (6, 6)) (SB 614 (((B0.set 1 (6, 2147483647)).set 1 (11, 2147483647)).set 1 (11, 15))) = true := by decide +kernel
set_option maxRecDepth 1000000 in
theorem case_7_3 : lawRun (fun _ => none) (fun _ => none) (some (6, 6)) (SB 614 (((B0.set 1 (6, 2147483647)).set 1 (11, 2147483647)).set 1 (16, 2147483647))) = true := by decide +kernel
