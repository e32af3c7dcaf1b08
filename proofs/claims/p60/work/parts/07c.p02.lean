/-! the tables, decided by the kernel -/
set_option maxRecDepth 100000 in
theorem am_Pc4 : (List.range 40).all (fun j => am_kP (160 + j)) = true := by decide +kernel
set_option maxRecDepth 100000 in
theorem am_Pc5 : (List.range 40).all (fun j => am_kP (200 + j)) = true := by decide +kernel
