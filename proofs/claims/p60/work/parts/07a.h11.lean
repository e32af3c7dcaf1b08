/-! the tables, decided by the kernel -/
set_option maxRecDepth 100000 in
theorem am_Hc33 : (List.range 10).all (fun j => am_kH (330 + j)) = true := by decide +kernel
set_option maxRecDepth 100000 in
theorem am_Hc34 : (List.range 10).all (fun j => am_kH (340 + j)) = true := by decide +kernel
set_option maxRecDepth 100000 in
theorem am_Hc35 : (List.range 10).all (fun j => am_kH (350 + j)) = true := by decide +kernel
