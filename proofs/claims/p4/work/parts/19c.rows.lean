/-! ===== THE TABLES, 5: all rows hold, on ===== -/
set_option maxRecDepth 100000 in
theorem rw_18 : (List.range 8).all (fun k => rowsM (227 + k)) = true := by decide +kernel
set_option maxRecDepth 100000 in
theorem rw_19 : (List.range 11).all (fun k => rowsM (235 + k)) = true := by decide +kernel
set_option maxRecDepth 100000 in
theorem rw_20 : (List.range 5).all (fun k => rowsM (246 + k)) = true := by decide +kernel
set_option maxRecDepth 100000 in
theorem rw_21 : (List.range 9).all (fun k => rowsM (251 + k)) = true := by decide +kernel
set_option maxRecDepth 100000 in
theorem rw_22 : (List.range 9).all (fun k => rowsM (260 + k)) = true := by decide +kernel
set_option maxRecDepth 100000 in
theorem rw_23 : (List.range 13).all (fun k => rowsM (269 + k)) = true := by decide +kernel
set_option maxRecDepth 100000 in
theorem rw_24 : (List.range 37).all (fun k => rowsM (282 + k)) = true := by decide +kernel
set_option maxRecDepth 100000 in
theorem rw_25 : (List.range 3).all (fun k => rowsM (319 + k)) = true := by decide +kernel
theorem rows_all (M : Nat) (h : M < 322) : rowsM M = true := by
  by_cases h0 : M < 14
  · have := List.all_eq_true.mp rw_0 (M - 0) (List.mem_range.mpr (by omega))
    rwa [show 0 + (M - 0) = M by omega] at this
  by_cases h1 : M < 22
  · have := List.all_eq_true.mp rw_1 (M - 14) (List.mem_range.mpr (by omega))
    rwa [show 14 + (M - 14) = M by omega] at this
  by_cases h2 : M < 37
  · have := List.all_eq_true.mp rw_2 (M - 22) (List.mem_range.mpr (by omega))
    rwa [show 22 + (M - 22) = M by omega] at this
  by_cases h3 : M < 46
  · have := List.all_eq_true.mp rw_3 (M - 37) (List.mem_range.mpr (by omega))
    rwa [show 37 + (M - 37) = M by omega] at this
  by_cases h4 : M < 56
  · have := List.all_eq_true.mp rw_4 (M - 46) (List.mem_range.mpr (by omega))
    rwa [show 46 + (M - 46) = M by omega] at this
  by_cases h5 : M < 76
  · have := List.all_eq_true.mp rw_5 (M - 56) (List.mem_range.mpr (by omega))
    rwa [show 56 + (M - 56) = M by omega] at this
  by_cases h6 : M < 90
  · have := List.all_eq_true.mp rw_6 (M - 76) (List.mem_range.mpr (by omega))
    rwa [show 76 + (M - 76) = M by omega] at this
  by_cases h7 : M < 107
  · have := List.all_eq_true.mp rw_7 (M - 90) (List.mem_range.mpr (by omega))
    rwa [show 90 + (M - 90) = M by omega] at this
  by_cases h8 : M < 119
  · have := List.all_eq_true.mp rw_8 (M - 107) (List.mem_range.mpr (by omega))
    rwa [show 107 + (M - 107) = M by omega] at this
  by_cases h9 : M < 129
  · have := List.all_eq_true.mp rw_9 (M - 119) (List.mem_range.mpr (by omega))
    rwa [show 119 + (M - 119) = M by omega] at this
  by_cases h10 : M < 146
  · have := List.all_eq_true.mp rw_10 (M - 129) (List.mem_range.mpr (by omega))
    rwa [show 129 + (M - 129) = M by omega] at this
  by_cases h11 : M < 165
  · have := List.all_eq_true.mp rw_11 (M - 146) (List.mem_range.mpr (by omega))
    rwa [show 146 + (M - 146) = M by omega] at this
  by_cases h12 : M < 172
  · have := List.all_eq_true.mp rw_12 (M - 165) (List.mem_range.mpr (by omega))
    rwa [show 165 + (M - 165) = M by omega] at this
  by_cases h13 : M < 181
  · have := List.all_eq_true.mp rw_13 (M - 172) (List.mem_range.mpr (by omega))
    rwa [show 172 + (M - 172) = M by omega] at this
  by_cases h14 : M < 193
  · have := List.all_eq_true.mp rw_14 (M - 181) (List.mem_range.mpr (by omega))
    rwa [show 181 + (M - 181) = M by omega] at this
  by_cases h15 : M < 201
  · have := List.all_eq_true.mp rw_15 (M - 193) (List.mem_range.mpr (by omega))
    rwa [show 193 + (M - 193) = M by omega] at this
  by_cases h16 : M < 217
  · have := List.all_eq_true.mp rw_16 (M - 201) (List.mem_range.mpr (by omega))
    rwa [show 201 + (M - 201) = M by omega] at this
  by_cases h17 : M < 227
  · have := List.all_eq_true.mp rw_17 (M - 217) (List.mem_range.mpr (by omega))
    rwa [show 217 + (M - 217) = M by omega] at this
  by_cases h18 : M < 235
  · have := List.all_eq_true.mp rw_18 (M - 227) (List.mem_range.mpr (by omega))
    rwa [show 227 + (M - 227) = M by omega] at this
  by_cases h19 : M < 246
  · have := List.all_eq_true.mp rw_19 (M - 235) (List.mem_range.mpr (by omega))
    rwa [show 235 + (M - 235) = M by omega] at this
  by_cases h20 : M < 251
  · have := List.all_eq_true.mp rw_20 (M - 246) (List.mem_range.mpr (by omega))
    rwa [show 246 + (M - 246) = M by omega] at this
  by_cases h21 : M < 260
  · have := List.all_eq_true.mp rw_21 (M - 251) (List.mem_range.mpr (by omega))
    rwa [show 251 + (M - 251) = M by omega] at this
  by_cases h22 : M < 269
  · have := List.all_eq_true.mp rw_22 (M - 260) (List.mem_range.mpr (by omega))
    rwa [show 260 + (M - 260) = M by omega] at this
  by_cases h23 : M < 282
  · have := List.all_eq_true.mp rw_23 (M - 269) (List.mem_range.mpr (by omega))
    rwa [show 269 + (M - 269) = M by omega] at this
  by_cases h24 : M < 319
  · have := List.all_eq_true.mp rw_24 (M - 282) (List.mem_range.mpr (by omega))
    rwa [show 282 + (M - 282) = M by omega] at this
  by_cases h25 : M < 322
  · have := List.all_eq_true.mp rw_25 (M - 319) (List.mem_range.mpr (by omega))
    rwa [show 319 + (M - 319) = M by omega] at this
  exact absurd h (by omega)
