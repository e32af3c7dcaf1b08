/-! the tables, decided by the kernel -/
set_option maxRecDepth 100000 in
theorem am_Pc6 : (List.range 40).all (fun j => am_kP (240 + j)) = true := by decide +kernel
set_option maxRecDepth 100000 in
theorem am_Pc7 : (List.range 40).all (fun j => am_kP (280 + j)) = true := by decide +kernel
