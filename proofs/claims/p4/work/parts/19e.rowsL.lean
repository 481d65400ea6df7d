/-! ===== THE TABLES, 6: the law's rows, on ===== -/
set_option maxRecDepth 100000 in
theorem rl_9 : (List.range 120).all (fun k => rwL (995 + k)) = true := by decide +kernel
set_option maxRecDepth 100000 in
theorem rl_10 : (List.range 120).all (fun k => rwL (1115 + k)) = true := by decide +kernel
set_option maxRecDepth 100000 in
theorem rl_11 : (List.range 120).all (fun k => rwL (1235 + k)) = true := by decide +kernel
set_option maxRecDepth 100000 in
theorem rl_12 : (List.range 52).all (fun k => rwL (1355 + k)) = true := by decide +kernel
theorem rows_L : rowsB 16 false code ft_L 1407 = true := List.all_eq_true.mpr (fun pc hpc => by
  have h := List.mem_range.mp hpc
  by_cases h0 : pc < 120
  · have := List.all_eq_true.mp rl_0 (pc - 0) (List.mem_range.mpr (by omega))
    rw [show 0 + (pc - 0) = pc by omega] at this
    exact this
  by_cases h1 : pc < 240
  · have := List.all_eq_true.mp rl_1 (pc - 120) (List.mem_range.mpr (by omega))
    rw [show 120 + (pc - 120) = pc by omega] at this
    exact this
  by_cases h2 : pc < 360
  · have := List.all_eq_true.mp rl_2 (pc - 240) (List.mem_range.mpr (by omega))
    rw [show 240 + (pc - 240) = pc by omega] at this
    exact this
  by_cases h3 : pc < 480
  · have := List.all_eq_true.mp rl_3 (pc - 360) (List.mem_range.mpr (by omega))
    rw [show 360 + (pc - 360) = pc by omega] at this
    exact this
  by_cases h4 : pc < 600
  · have := List.all_eq_true.mp rl_4 (pc - 480) (List.mem_range.mpr (by omega))
    rw [show 480 + (pc - 480) = pc by omega] at this
    exact this
  by_cases h5 : pc < 720
  · have := List.all_eq_true.mp rl_5 (pc - 600) (List.mem_range.mpr (by omega))
    rw [show 600 + (pc - 600) = pc by omega] at this
    exact this
  by_cases h6 : pc < 840
  · have := List.all_eq_true.mp rl_6 (pc - 720) (List.mem_range.mpr (by omega))
    rw [show 720 + (pc - 720) = pc by omega] at this
    exact this
  by_cases h7 : pc < 960
  · have := List.all_eq_true.mp rl_7 (pc - 840) (List.mem_range.mpr (by omega))
    rw [show 840 + (pc - 840) = pc by omega] at this
    exact this
  by_cases h8 : pc < 995
  · have := List.all_eq_true.mp rl_8 (pc - 960) (List.mem_range.mpr (by omega))
    rw [show 960 + (pc - 960) = pc by omega] at this
    exact this
  by_cases h9 : pc < 1115
  · have := List.all_eq_true.mp rl_9 (pc - 995) (List.mem_range.mpr (by omega))
    rw [show 995 + (pc - 995) = pc by omega] at this
    exact this
  by_cases h10 : pc < 1235
  · have := List.all_eq_true.mp rl_10 (pc - 1115) (List.mem_range.mpr (by omega))
    rw [show 1115 + (pc - 1115) = pc by omega] at this
    exact this
  by_cases h11 : pc < 1355
  · have := List.all_eq_true.mp rl_11 (pc - 1235) (List.mem_range.mpr (by omega))
    rw [show 1235 + (pc - 1235) = pc by omega] at this
    exact this
  by_cases h12 : pc < 1407
  · have := List.all_eq_true.mp rl_12 (pc - 1355) (List.mem_range.mpr (by omega))
    rw [show 1355 + (pc - 1355) = pc by omega] at this
    exact this
  exact absurd h (by omega))
