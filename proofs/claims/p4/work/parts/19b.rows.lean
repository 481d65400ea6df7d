/-! ===== THE TABLES, 5: all rows hold, on ===== -/
set_option maxRecDepth 100000 in
theorem rw_9 : (List.range 10).all (fun k => rowsM (119 + k)) = true := by decide +kernel
set_option maxRecDepth 100000 in
theorem rw_10 : (List.range 17).all (fun k => rowsM (129 + k)) = true := by decide +kernel
set_option maxRecDepth 100000 in
theorem rw_11 : (List.range 19).all (fun k => rowsM (146 + k)) = true := by decide +kernel
set_option maxRecDepth 100000 in
theorem rw_12 : (List.range 7).all (fun k => rowsM (165 + k)) = true := by decide +kernel
set_option maxRecDepth 100000 in
theorem rw_13 : (List.range 9).all (fun k => rowsM (172 + k)) = true := by decide +kernel
set_option maxRecDepth 100000 in
theorem rw_14 : (List.range 12).all (fun k => rowsM (181 + k)) = true := by decide +kernel
set_option maxRecDepth 100000 in
theorem rw_15 : (List.range 8).all (fun k => rowsM (193 + k)) = true := by decide +kernel
set_option maxRecDepth 100000 in
theorem rw_16 : (List.range 16).all (fun k => rowsM (201 + k)) = true := by decide +kernel
set_option maxRecDepth 100000 in
theorem rw_17 : (List.range 10).all (fun k => rowsM (217 + k)) = true := by decide +kernel
