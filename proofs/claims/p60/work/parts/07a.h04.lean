/-! the tables, decided by the kernel -/
set_option maxRecDepth 100000 in
theorem am_Hc12 : (List.range 10).all (fun j => am_kH (120 + j)) = true := by decide +kernel
set_option maxRecDepth 100000 in
theorem am_Hc13 : (List.range 10).all (fun j => am_kH (130 + j)) = true := by decide +kernel
set_option maxRecDepth 100000 in
theorem am_Hc14 : (List.range 10).all (fun j => am_kH (140 + j)) = true := by decide +kernel
