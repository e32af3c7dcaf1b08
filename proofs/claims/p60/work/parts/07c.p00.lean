/-! the tables, decided by the kernel -/
set_option maxRecDepth 100000 in
theorem am_Pc0 : (List.range 40).all (fun j => am_kP (0 + j)) = true := by decide +kernel
set_option maxRecDepth 100000 in
theorem am_Pc1 : (List.range 40).all (fun j => am_kP (40 + j)) = true := by decide +kernel
