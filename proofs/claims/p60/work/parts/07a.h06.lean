/-! the tables, decided by the kernel -/
set_option maxRecDepth 100000 in
theorem am_Hc18 : (List.range 10).all (fun j => am_kH (180 + j)) = true := by decide +kernel
set_option maxRecDepth 100000 in
theorem am_Hc19 : (List.range 10).all (fun j => am_kH (190 + j)) = true := by decide +kernel
set_option maxRecDepth 100000 in
theorem am_Hc20 : (List.range 10).all (fun j => am_kH (200 + j)) = true := by decide +kernel
