/-! the tables, decided by the kernel -/
set_option maxRecDepth 100000 in
theorem am_Kc0 : (List.range 20).all (fun j => am_kK (0 + j)) = true := by decide +kernel
set_option maxRecDepth 100000 in
theorem am_Kc1 : (List.range 20).all (fun j => am_kK (20 + j)) = true := by decide +kernel
set_option maxRecDepth 100000 in
theorem am_Kc2 : (List.range 20).all (fun j => am_kK (40 + j)) = true := by decide +kernel
