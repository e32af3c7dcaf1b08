/-! the tables, decided by the kernel -/
set_option maxRecDepth 100000 in
theorem am_Hc0 : (List.range 10).all (fun j => am_kH (0 + j)) = true := by decide +kernel
set_option maxRecDepth 100000 in
theorem am_Hc1 : (List.range 10).all (fun j => am_kH (10 + j)) = true := by decide +kernel
set_option maxRecDepth 100000 in
theorem am_Hc2 : (List.range 10).all (fun j => am_kH (20 + j)) = true := by decide +kernel
