/-! the tables, decided by the kernel -/
set_option maxRecDepth 100000 in
theorem am_Hc30 : (List.range 10).all (fun j => am_kH (300 + j)) = true := by decide +kernel
set_option maxRecDepth 100000 in
theorem am_Hc31 : (List.range 10).all (fun j => am_kH (310 + j)) = true := by decide +kernel
set_option maxRecDepth 100000 in
theorem am_Hc32 : (List.range 10).all (fun j => am_kH (320 + j)) = true := by decide +kernel
