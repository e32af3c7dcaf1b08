/-! the tables, decided by the kernel -/
set_option maxRecDepth 100000 in
theorem am_Nk : am_kN = true := by decide +kernel
set_option maxRecDepth 100000 in
theorem am_Vk : am_kV = true := by decide +kernel
set_option maxRecDepth 100000 in
theorem am_Gk : am_kG = true := by decide +kernel
