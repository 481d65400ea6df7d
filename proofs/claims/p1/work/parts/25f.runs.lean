/-! ===== THE LAW, 6: runs (printed by wip/engine/gen5.py) ===== -/
set_option maxRecDepth 1000000 in
theorem case_1 : lawRun (fun _ => none) (fun _ => none) (some (6, 6)) (SL 285 []) = true := by decide +kernel
