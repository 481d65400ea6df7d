/-! ===== THE TABLES, 6: the law's rows ===== -/
def rwL (pc : Nat) : Bool := match ft_L pc with
  | none => true
  | some q => rowB 16 false code pc q
set_option maxRecDepth 100000 in
theorem rl_0 : (List.range 120).all (fun k => rwL (0 + k)) = true := by decide +kernel
set_option maxRecDepth 100000 in
theorem rl_1 : (List.range 120).all (fun k => rwL (120 + k)) = true := by decide +kernel
set_option maxRecDepth 100000 in
theorem rl_2 : (List.range 120).all (fun k => rwL (240 + k)) = true := by decide +kernel
set_option maxRecDepth 100000 in
theorem rl_3 : (List.range 120).all (fun k => rwL (360 + k)) = true := by decide +kernel
set_option maxRecDepth 100000 in
theorem rl_4 : (List.range 120).all (fun k => rwL (480 + k)) = true := by decide +kernel
set_option maxRecDepth 100000 in
theorem rl_5 : (List.range 120).all (fun k => rwL (600 + k)) = true := by decide +kernel
set_option maxRecDepth 100000 in
theorem rl_6 : (List.range 120).all (fun k => rwL (720 + k)) = true := by decide +kernel
set_option maxRecDepth 100000 in
theorem rl_7 : (List.range 120).all (fun k => rwL (840 + k)) = true := by decide +kernel
set_option maxRecDepth 100000 in
theorem rl_8 : (List.range 35).all (fun k => rwL (960 + k)) = true := by decide +kernel
