/-! the tables, decided by the kernel -/
set_option maxRecDepth 100000 in
theorem am_Hc6 : (List.range 10).all (fun j => am_kH (60 + j)) = true := by decide +kernel
set_option maxRecDepth 100000 in
theorem am_Hc7 : (List.range 10).all (fun j => am_kH (70 + j)) = true := by decide +kernel
set_option maxRecDepth 100000 in
theorem am_Hc8 : (List.range 10).all (fun j => am_kH (80 + j)) = true := by decide +kernel
