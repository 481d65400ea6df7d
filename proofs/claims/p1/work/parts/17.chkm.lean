/-! ===== THE TABLES, 3: the methods' words ===== -/
set_option maxRecDepth 100000 in
theorem chkM_0 : (List.range 27).all (fun k => chkM (0 + k)) = true := by decide +kernel
set_option maxRecDepth 100000 in
theorem chkM_1 : (List.range 27).all (fun k => chkM (27 + k)) = true := by decide +kernel
set_option maxRecDepth 100000 in
theorem chkM_2 : (List.range 27).all (fun k => chkM (54 + k)) = true := by decide +kernel
set_option maxRecDepth 100000 in
theorem chkM_3 : (List.range 27).all (fun k => chkM (81 + k)) = true := by decide +kernel
set_option maxRecDepth 100000 in
theorem chkM_4 : (List.range 27).all (fun k => chkM (108 + k)) = true := by decide +kernel
set_option maxRecDepth 100000 in
theorem chkM_5 : (List.range 27).all (fun k => chkM (135 + k)) = true := by decide +kernel
set_option maxRecDepth 100000 in
theorem chkM_6 : (List.range 27).all (fun k => chkM (162 + k)) = true := by decide +kernel
set_option maxRecDepth 100000 in
theorem chkM_7 : (List.range 24).all (fun k => chkM (189 + k)) = true := by decide +kernel
theorem chkM_ok (M : Nat) (h : M < 213) : chkM M = true := by
  by_cases h0 : M < 27
  · have := List.all_eq_true.mp chkM_0 (M - 0) (List.mem_range.mpr (by omega))
    rwa [show 0 + (M - 0) = M by omega] at this
  by_cases h1 : M < 54
  · have := List.all_eq_true.mp chkM_1 (M - 27) (List.mem_range.mpr (by omega))
    rwa [show 27 + (M - 27) = M by omega] at this
  by_cases h2 : M < 81
  · have := List.all_eq_true.mp chkM_2 (M - 54) (List.mem_range.mpr (by omega))
    rwa [show 54 + (M - 54) = M by omega] at this
  by_cases h3 : M < 108
  · have := List.all_eq_true.mp chkM_3 (M - 81) (List.mem_range.mpr (by omega))
    rwa [show 81 + (M - 81) = M by omega] at this
  by_cases h4 : M < 135
  · have := List.all_eq_true.mp chkM_4 (M - 108) (List.mem_range.mpr (by omega))
    rwa [show 108 + (M - 108) = M by omega] at this
  by_cases h5 : M < 162
  · have := List.all_eq_true.mp chkM_5 (M - 135) (List.mem_range.mpr (by omega))
    rwa [show 135 + (M - 135) = M by omega] at this
  by_cases h6 : M < 189
  · have := List.all_eq_true.mp chkM_6 (M - 162) (List.mem_range.mpr (by omega))
    rwa [show 162 + (M - 162) = M by omega] at this
  by_cases h7 : M < 213
  · have := List.all_eq_true.mp chkM_7 (M - 189) (List.mem_range.mpr (by omega))
    rwa [show 189 + (M - 189) = M by omega] at this
  exact absurd h (by omega)
