/-! the tables, decided by the kernel -/
set_option maxRecDepth 100000 in
theorem am_Kc9 : (List.range 20).all (fun j => am_kK (180 + j)) = true := by decide +kernel
set_option maxRecDepth 100000 in
theorem am_Kc10 : (List.range 20).all (fun j => am_kK (200 + j)) = true := by decide +kernel
set_option maxRecDepth 100000 in
theorem am_Kc11 : (List.range 20).all (fun j => am_kK (220 + j)) = true := by decide +kernel
