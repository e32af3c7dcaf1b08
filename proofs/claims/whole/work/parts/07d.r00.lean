/-! the tables, decided by the kernel -/
set_option maxRecDepth 100000 in
theorem am_Fk : am_kF = true := by decide +kernel
set_option maxRecDepth 100000 in
theorem am_Tk : am_kT = true := by decide +kernel
set_option maxRecDepth 100000 in
theorem am_Sk : am_kS = true := by decide +kernel
