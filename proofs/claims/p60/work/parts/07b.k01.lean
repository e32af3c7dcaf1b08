/-! the tables, decided by the kernel -/
set_option maxRecDepth 100000 in
theorem am_Kc3 : (List.range 20).all (fun j => am_kK (60 + j)) = true := by decide +kernel
set_option maxRecDepth 100000 in
theorem am_Kc4 : (List.range 20).all (fun j => am_kK (80 + j)) = true := by decide +kernel
set_option maxRecDepth 100000 in
theorem am_Kc5 : (List.range 20).all (fun j => am_kK (100 + j)) = true := by decide +kernel
