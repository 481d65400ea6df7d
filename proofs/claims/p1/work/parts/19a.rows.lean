/-! ===== THE TABLES, 5: all rows hold (printed by wip/engine/gen3.py) ===== -/
set_option maxRecDepth 100000 in
theorem rw_0 : (List.range 13).all (fun k => rowsM (0 + k)) = true := by decide +kernel
set_option maxRecDepth 100000 in
theorem rw_1 : (List.range 9).all (fun k => rowsM (13 + k)) = true := by decide +kernel
set_option maxRecDepth 100000 in
theorem rw_2 : (List.range 11).all (fun k => rowsM (22 + k)) = true := by decide +kernel
set_option maxRecDepth 100000 in
theorem rw_3 : (List.range 17).all (fun k => rowsM (33 + k)) = true := by decide +kernel
set_option maxRecDepth 100000 in
theorem rw_4 : (List.range 14).all (fun k => rowsM (50 + k)) = true := by decide +kernel
set_option maxRecDepth 100000 in
theorem rw_5 : (List.range 12).all (fun k => rowsM (64 + k)) = true := by decide +kernel
set_option maxRecDepth 100000 in
theorem rw_6 : (List.range 18).all (fun k => rowsM (76 + k)) = true := by decide +kernel
set_option maxRecDepth 100000 in
theorem rw_7 : (List.range 14).all (fun k => rowsM (94 + k)) = true := by decide +kernel
set_option maxRecDepth 100000 in
theorem rw_8 : (List.range 10).all (fun k => rowsM (108 + k)) = true := by decide +kernel
set_option maxRecDepth 100000 in
theorem rw_9 : (List.range 11).all (fun k => rowsM (118 + k)) = true := by decide +kernel
set_option maxRecDepth 100000 in
theorem rw_10 : (List.range 12).all (fun k => rowsM (129 + k)) = true := by decide +kernel
set_option maxRecDepth 100000 in
theorem rw_11 : (List.range 6).all (fun k => rowsM (141 + k)) = true := by decide +kernel
set_option maxRecDepth 100000 in
theorem rw_12 : (List.range 10).all (fun k => rowsM (147 + k)) = true := by decide +kernel
set_option maxRecDepth 100000 in
theorem rw_13 : (List.range 8).all (fun k => rowsM (157 + k)) = true := by decide +kernel
set_option maxRecDepth 100000 in
theorem rw_14 : (List.range 10).all (fun k => rowsM (165 + k)) = true := by decide +kernel
set_option maxRecDepth 100000 in
theorem rw_15 : (List.range 19).all (fun k => rowsM (175 + k)) = true := by decide +kernel
set_option maxRecDepth 100000 in
theorem rw_16 : (List.range 19).all (fun k => rowsM (194 + k)) = true := by decide +kernel
theorem rows_all (M : Nat) (h : M < 213) : rowsM M = true := by
  by_cases h0 : M < 13
  · have := List.all_eq_true.mp rw_0 (M - 0) (List.mem_range.mpr (by omega))
    rwa [show 0 + (M - 0) = M by omega] at this
  by_cases h1 : M < 22
  · have := List.all_eq_true.mp rw_1 (M - 13) (List.mem_range.mpr (by omega))
    rwa [show 13 + (M - 13) = M by omega] at this
  by_cases h2 : M < 33
  · have := List.all_eq_true.mp rw_2 (M - 22) (List.mem_range.mpr (by omega))
    rwa [show 22 + (M - 22) = M by omega] at this
  by_cases h3 : M < 50
  · have := List.all_eq_true.mp rw_3 (M - 33) (List.mem_range.mpr (by omega))
    rwa [show 33 + (M - 33) = M by omega] at this
  by_cases h4 : M < 64
  · have := List.all_eq_true.mp rw_4 (M - 50) (List.mem_range.mpr (by omega))
    rwa [show 50 + (M - 50) = M by omega] at this
  by_cases h5 : M < 76
  · have := List.all_eq_true.mp rw_5 (M - 64) (List.mem_range.mpr (by omega))
    rwa [show 64 + (M - 64) = M by omega] at this
  by_cases h6 : M < 94
  · have := List.all_eq_true.mp rw_6 (M - 76) (List.mem_range.mpr (by omega))
    rwa [show 76 + (M - 76) = M by omega] at this
  by_cases h7 : M < 108
  · have := List.all_eq_true.mp rw_7 (M - 94) (List.mem_range.mpr (by omega))
    rwa [show 94 + (M - 94) = M by omega] at this
  by_cases h8 : M < 118
  · have := List.all_eq_true.mp rw_8 (M - 108) (List.mem_range.mpr (by omega))
    rwa [show 108 + (M - 108) = M by omega] at this
  by_cases h9 : M < 129
  · have := List.all_eq_true.mp rw_9 (M - 118) (List.mem_range.mpr (by omega))
    rwa [show 118 + (M - 118) = M by omega] at this
  by_cases h10 : M < 141
  · have := List.all_eq_true.mp rw_10 (M - 129) (List.mem_range.mpr (by omega))
    rwa [show 129 + (M - 129) = M by omega] at this
  by_cases h11 : M < 147
  · have := List.all_eq_true.mp rw_11 (M - 141) (List.mem_range.mpr (by omega))
    rwa [show 141 + (M - 141) = M by omega] at this
  by_cases h12 : M < 157
  · have := List.all_eq_true.mp rw_12 (M - 147) (List.mem_range.mpr (by omega))
    rwa [show 147 + (M - 147) = M by omega] at this
  by_cases h13 : M < 165
  · have := List.all_eq_true.mp rw_13 (M - 157) (List.mem_range.mpr (by omega))
    rwa [show 157 + (M - 157) = M by omega] at this
  by_cases h14 : M < 175
  · have := List.all_eq_true.mp rw_14 (M - 165) (List.mem_range.mpr (by omega))
    rwa [show 165 + (M - 165) = M by omega] at this
  by_cases h15 : M < 194
  · have := List.all_eq_true.mp rw_15 (M - 175) (List.mem_range.mpr (by omega))
    rwa [show 175 + (M - 175) = M by omega] at this
  by_cases h16 : M < 213
  · have := List.all_eq_true.mp rw_16 (M - 194) (List.mem_range.mpr (by omega))
    rwa [show 194 + (M - 194) = M by omega] at this
  exact absurd h (by omega)
