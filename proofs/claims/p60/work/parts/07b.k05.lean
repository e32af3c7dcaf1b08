/-! the tables, decided by the kernel -/
set_option maxRecDepth 100000 in
theorem am_Kc15 : (List.range 20).all (fun j => am_kK (300 + j)) = true := by decide +kernel
set_option maxRecDepth 100000 in
theorem am_Kc16 : (List.range 20).all (fun j => am_kK (320 + j)) = true := by decide +kernel
set_option maxRecDepth 100000 in
theorem am_Kc17 : (List.range 20).all (fun j => am_kK (340 + j)) = true := by decide +kernel
