/-! ===== THE TABLES, 3: the methods' words ===== -/
set_option maxRecDepth 100000 in
theorem chkM_0 : (List.range 27).all (fun k => chkM (0 + k)) = true := by decide +kernel
set_option maxRecDepth 100000 in
theorem chkM_1 : (List.range 27).all (fun k => chkM (27 + k)) = true := by decide +kernel
set_option maxRecDepth 100000 in
theorem chkM_2 : (List.range 27).all (fun k => chkM (54 + k)) = true := by decide +kernel
set_option maxRecDepth 100000 in
theorem chkM_3 : (List.range 27).all (fun k => chkM (81 + k)) = true := by decide +kernel
set_option maxRecDepth 100000 in
theorem chkM_4 : (List.range 27).all (fun k => chkM (108 + k)) = true := by decide +kernel
set_option maxRecDepth 100000 in
theorem chkM_5 : (List.range 27).all (fun k => chkM (135 + k)) = true := by decide +kernel
set_option maxRecDepth 100000 in
theorem chkM_6 : (List.range 27).all (fun k => chkM (162 + k)) = true := by decide +kernel
set_option maxRecDepth 100000 in
theorem chkM_7 : (List.range 27).all (fun k => chkM (189 + k)) = true := by decide +kernel
set_option maxRecDepth 100000 in
theorem chkM_8 : (List.range 27).all (fun k => chkM (216 + k)) = true := by decide +kernel
set_option maxRecDepth 100000 in
theorem chkM_9 : (List.range 27).all (fun k => chkM (243 + k)) = true := by decide +kernel
set_option maxRecDepth 100000 in
theorem chkM_10 : (List.range 27).all (fun k => chkM (270 + k)) = true := by decide +kernel
set_option maxRecDepth 100000 in
theorem chkM_11 : (List.range 25).all (fun k => chkM (297 + k)) = true := by decide +kernel
theorem chkM_ok (M : Nat) (h : M < 322) : chkM M = true := by
  by_cases h0 : M < 27
  · have := List.all_eq_true.mp chkM_0 (M - 0) (List.mem_range.mpr (by omega))
    rwa [show 0 + (M - 0) = M by omega] at this
  by_cases h1 : M < 54
  · have := List.all_eq_true.mp chkM_1 (M - 27) (List.mem_range.mpr (by omega))
    rwa [show 27 + (M - 27) = M by omega] at this
  by_cases h2 : M < 81
  · have := List.all_eq_true.mp chkM_2 (M - 54) (List.mem_range.mpr (by omega))
    rwa [show 54 + (M - 54) = M by omega] at this
  by_cases h3 : M < 108
  · have := List.all_eq_true.mp chkM_3 (M - 81) (List.mem_range.mpr (by omega))
    rwa [show 81 + (M - 81) = M by omega] at this
  by_cases h4 : M < 135
  · have := List.all_eq_true.mp chkM_4 (M - 108) (List.mem_range.mpr (by omega))
    rwa [show 108 + (M - 108) = M by omega] at this
  by_cases h5 : M < 162
  · have := List.all_eq_true.mp chkM_5 (M - 135) (List.mem_range.mpr (by omega))
    rwa [show 135 + (M - 135) = M by omega] at this
  by_cases h6 : M < 189
  · have := List.all_eq_true.mp chkM_6 (M - 162) (List.mem_range.mpr (by omega))
    rwa [show 162 + (M - 162) = M by omega] at this
  by_cases h7 : M < 216
  · have := List.all_eq_true.mp chkM_7 (M - 189) (List.mem_range.mpr (by omega))
    rwa [show 189 + (M - 189) = M by omega] at this
  by_cases h8 : M < 243
  · have := List.all_eq_true.mp chkM_8 (M - 216) (List.mem_range.mpr (by omega))
    rwa [show 216 + (M - 216) = M by omega] at this
  by_cases h9 : M < 270
  · have := List.all_eq_true.mp chkM_9 (M - 243) (List.mem_range.mpr (by omega))
    rwa [show 243 + (M - 243) = M by omega] at this
  by_cases h10 : M < 297
  · have := List.all_eq_true.mp chkM_10 (M - 270) (List.mem_range.mpr (by omega))
    rwa [show 270 + (M - 270) = M by omega] at this
  by_cases h11 : M < 322
  · have := List.all_eq_true.mp chkM_11 (M - 297) (List.mem_range.mpr (by omega))
    rwa [show 297 + (M - 297) = M by omega] at this
  exact absurd h (by omega)
