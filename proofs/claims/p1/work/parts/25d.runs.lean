/-! ===== THE LAW, 6: runs (printed by wip/engine/gen5.py) ===== -/
def mg_17 (M : Nat) : Option eHt := bif Nat.beq M 37 then some ([], []) else (bif Nat.beq M 61 then some ([(48, 0, 0, 60)], [(2, 0, 60)]) else (none))
def cu_17 (M : Nat) : Option (Nat × List Nat × eHt) := bif Nat.beq M 123 then some (62, [], ([(59, 31, 0, 60)], [(2, 0, 60)])) else (none)
set_option maxRecDepth 1000000 in
theorem case_17_0 : lawRun mg_17 cu_17 (some (6, 6)) (SB 1174 (B0.set 1 ((-2147483648), 1))) = true := by decide +kernel
set_option maxRecDepth 1000000 in
theorem case_17_1 : lawRun mg_17 cu_17 (some (6, 6)) (SB 1174 (B0.set 1 (2, 2147483647))) = true := by decide +kernel
