/-! the tables, decided by the kernel -/
set_option maxRecDepth 100000 in
theorem am_Pc2 : (List.range 40).all (fun j => am_kP (80 + j)) = true := by decide +kernel
set_option maxRecDepth 100000 in
theorem am_Pc3 : (List.range 40).all (fun j => am_kP (120 + j)) = true := by decide +kernel
