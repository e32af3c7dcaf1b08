/-! the tables, decided by the kernel -/
set_option maxRecDepth 100000 in
theorem am_Hc3 : (List.range 10).all (fun j => am_kH (30 + j)) = true := by decide +kernel
set_option maxRecDepth 100000 in
theorem am_Hc4 : (List.range 10).all (fun j => am_kH (40 + j)) = true := by decide +kernel
set_option maxRecDepth 100000 in
theorem am_Hc5 : (List.range 10).all (fun j => am_kH (50 + j)) = true := by decide +kernel
