/-! the tables, decided by the kernel -/
set_option maxRecDepth 100000 in
theorem am_Hc9 : (List.range 10).all (fun j => am_kH (90 + j)) = true := by decide +kernel
set_option maxRecDepth 100000 in
theorem am_Hc10 : (List.range 10).all (fun j => am_kH (100 + j)) = true := by decide +kernel
set_option maxRecDepth 100000 in
theorem am_Hc11 : (List.range 10).all (fun j => am_kH (110 + j)) = true := by decide +kernel
