/-! the tables, decided by the kernel -/
set_option maxRecDepth 100000 in
theorem am_Hc27 : (List.range 10).all (fun j => am_kH (270 + j)) = true := by decide +kernel
set_option maxRecDepth 100000 in
theorem am_Hc28 : (List.range 10).all (fun j => am_kH (280 + j)) = true := by decide +kernel
set_option maxRecDepth 100000 in
theorem am_Hc29 : (List.range 10).all (fun j => am_kH (290 + j)) = true := by decide +kernel
