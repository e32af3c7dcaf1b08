/-! the tables, decided by the kernel -/
set_option maxRecDepth 100000 in
theorem am_Kc12 : (List.range 20).all (fun j => am_kK (240 + j)) = true := by decide +kernel
set_option maxRecDepth 100000 in
theorem am_Kc13 : (List.range 20).all (fun j => am_kK (260 + j)) = true := by decide +kernel
set_option maxRecDepth 100000 in
theorem am_Kc14 : (List.range 20).all (fun j => am_kK (280 + j)) = true := by decide +kernel
