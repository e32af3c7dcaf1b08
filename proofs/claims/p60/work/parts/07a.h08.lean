/-! the tables, decided by the kernel -/
set_option maxRecDepth 100000 in
theorem am_Hc24 : (List.range 10).all (fun j => am_kH (240 + j)) = true := by decide +kernel
set_option maxRecDepth 100000 in
theorem am_Hc25 : (List.range 10).all (fun j => am_kH (250 + j)) = true := by decide +kernel
set_option maxRecDepth 100000 in
theorem am_Hc26 : (List.range 10).all (fun j => am_kH (260 + j)) = true := by decide +kernel
