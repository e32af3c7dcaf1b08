/-! the tables, decided by the kernel -/
set_option maxRecDepth 100000 in
theorem am_Xk : am_kX = true := by decide +kernel
set_option maxRecDepth 100000 in
theorem am_Jk : (List.range 365).all am_kJ = true := by decide +kernel
