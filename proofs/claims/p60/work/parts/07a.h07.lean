/-! the tables, decided by the kernel -/
set_option maxRecDepth 100000 in
theorem am_Hc21 : (List.range 10).all (fun j => am_kH (210 + j)) = true := by decide +kernel
set_option maxRecDepth 100000 in
theorem am_Hc22 : (List.range 10).all (fun j => am_kH (220 + j)) = true := by decide +kernel
set_option maxRecDepth 100000 in
theorem am_Hc23 : (List.range 10).all (fun j => am_kH (230 + j)) = true := by decide +kernel
