/-! ===== THE LAW, 6: runs (printed by wip/engine/gen5.py) ===== -/
set_option maxRecDepth 1000000 in
theorem case_25_0 : lawRun (fun _ => none) (fun _ => none) (some (6, 6)) (SB 1591 (B0.set 1 ((-2147483648), 0))) = true := by decide +kernel
set_option maxRecDepth 1000000 in
theorem case_25_1 : lawRun (fun _ => none) (fun _ => none) (some (6, 6)) (SB 1591 (B0.set 1 (1, 2147483647))) = true := by decide +kernel
def mg_36 (M : Nat) : Option eHt := bif Nat.beq M 42 then some ([(48, 0, 0, 60)], [(2, 0, 60)]) else (none)
def cu_36 (M : Nat) : Option (Nat × List Nat × eHt) := bif Nat.beq M 158 then some (131, [4, 5], ([(59, 31, 0, 60)], [(2, 0, 60)])) else (none)
set_option maxRecDepth 1000000 in
theorem case_36_0 : lawRun mg_36 cu_36 (some (6, 6)) (SB 2093 (B0.set 3 ((-2147483648), 0))) = true := by decide +kernel
set_option maxRecDepth 1000000 in
theorem case_36_1 : lawRun mg_36 cu_36 (some (6, 6)) (SB 2093 ((B0.set 3 (1, 2147483647)).set 3 (1, 1))) = true := by decide +kernel
set_option maxRecDepth 1000000 in
theorem case_36_2 : lawRun mg_36 cu_36 (some (6, 6)) (SB 2093 ((B0.set 3 (1, 2147483647)).set 3 (2, 2147483647))) = true := by decide +kernel
