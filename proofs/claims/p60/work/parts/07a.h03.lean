/-! the tables, decided by the kernel -/
set_option maxRecDepth 100000 in
theorem am_Hc21 : (List.range 10).all (fun j => am_kH (210 + j)) = true := by decide +kernel
set_option maxRecDepth 100000 in
theorem am_Hc22 : (List.range 10).all (fun j => am_kH (220 + j)) = true := by decide +kernel
set_option maxRecDepth 100000 in
theorem am_Hc23 : (List.range 10).all (fun j => am_kH (230 + j)) = true := by decide +kernel
set_option maxRecDepth 100000 in
theorem am_Hc24 : (List.range 10).all (fun j => am_kH (240 + j)) = true := by decide +kernel
set_option maxRecDepth 100000 in
theorem am_Hc25 : (List.range 10).all (fun j => am_kH (250 + j)) = true := by decide +kernel
set_option maxRecDepth 100000 in
theorem am_Hc26 : (List.range 10).all (fun j => am_kH (260 + j)) = true := by decide +kernel
set_option maxRecDepth 100000 in
theorem am_Hc27 : (List.range 10).all (fun j => am_kH (270 + j)) = true := by decide +kernel
