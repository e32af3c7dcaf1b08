/-! the tables, decided by the kernel -/
set_option maxRecDepth 100000 in
theorem am_Kc6 : (List.range 20).all (fun j => am_kK (120 + j)) = true := by decide +kernel
set_option maxRecDepth 100000 in
theorem am_Kc7 : (List.range 20).all (fun j => am_kK (140 + j)) = true := by decide +kernel
set_option maxRecDepth 100000 in
theorem am_Kc8 : (List.range 20).all (fun j => am_kK (160 + j)) = true := by decide +kernel
