/-! ===== THE TABLES, 5: all rows hold (printed by wip/engine3/gen/gen3.py) ===== -/
set_option maxRecDepth 100000 in
theorem rw_0 : (List.range 14).all (fun k => rowsM (0 + k)) = true := by decide +kernel
set_option maxRecDepth 100000 in
theorem rw_1 : (List.range 8).all (fun k => rowsM (14 + k)) = true := by decide +kernel
set_option maxRecDepth 100000 in
theorem rw_2 : (List.range 15).all (fun k => rowsM (22 + k)) = true := by decide +kernel
set_option maxRecDepth 100000 in
theorem rw_3 : (List.range 9).all (fun k => rowsM (37 + k)) = true := by decide +kernel
set_option maxRecDepth 100000 in
theorem rw_4 : (List.range 10).all (fun k => rowsM (46 + k)) = true := by decide +kernel
set_option maxRecDepth 100000 in
theorem rw_5 : (List.range 20).all (fun k => rowsM (56 + k)) = true := by decide +kernel
set_option maxRecDepth 100000 in
theorem rw_6 : (List.range 14).all (fun k => rowsM (76 + k)) = true := by decide +kernel
set_option maxRecDepth 100000 in
theorem rw_7 : (List.range 17).all (fun k => rowsM (90 + k)) = true := by decide +kernel
set_option maxRecDepth 100000 in
theorem rw_8 : (List.range 12).all (fun k => rowsM (107 + k)) = true := by decide +kernel
