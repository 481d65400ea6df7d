/-! ===== THE LAW, 6: runs (printed by wip/engine/gen5.py) ===== -/
def mg_22 (M : Nat) : Option eHt := bif Nat.beq M 61 then some ([(48, 0, 0, 60)], [(1, 0, 60)]) else (none)
def cu_22 (M : Nat) : Option (Nat × List Nat × eHt) := bif Nat.beq M 152 then some (37, [], ([(59, 31, 0, 60)], [(1, 0, 60)])) else (none)
set_option maxRecDepth 1000000 in
theorem case_22 : lawRun mg_22 cu_22 (some (6, 6)) (SL 1423 []) = true := by decide +kernel
def mg_23 (M : Nat) : Option eHt := bif Nat.beq M 61 then some ([(48, 0, 0, 60)], [(1, 0, 60)]) else (none)
def cu_23 (M : Nat) : Option (Nat × List Nat × eHt) := bif Nat.beq M 174 then some (37, [], ([(59, 31, 0, 60)], [(1, 0, 60)])) else (none)
set_option maxRecDepth 1000000 in
theorem case_23 : lawRun mg_23 cu_23 (some (6, 6)) (SL 1479 []) = true := by decide +kernel
def mg_24 (M : Nat) : Option eHt := bif Nat.beq M 61 then some ([(48, 0, 0, 60)], [(1, 0, 60)]) else (none)
def cu_24 (M : Nat) : Option (Nat × List Nat × eHt) := bif Nat.beq M 173 then some (37, [], ([(59, 31, 0, 60)], [(1, 0, 60)])) else (none)
set_option maxRecDepth 1000000 in
theorem case_24 : lawRun mg_24 cu_24 (some (6, 6)) (SL 1535 []) = true := by decide +kernel
