/-! the tables, decided by the kernel -/
set_option maxRecDepth 100000 in
theorem am_Hc15 : (List.range 10).all (fun j => am_kH (150 + j)) = true := by decide +kernel
set_option maxRecDepth 100000 in
theorem am_Hc16 : (List.range 10).all (fun j => am_kH (160 + j)) = true := by decide +kernel
set_option maxRecDepth 100000 in
theorem am_Hc17 : (List.range 10).all (fun j => am_kH (170 + j)) = true := by decide +kernel
