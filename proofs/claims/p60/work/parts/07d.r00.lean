/-! the tables, decided by the kernel -/
set_option maxRecDepth 100000 in
theorem am_Fk : am_kF = true := by decide +kernel
set_option maxRecDepth 100000 in
theorem am_Tk : am_kT = true := by decide +kernel
set_option maxRecDepth 100000 in
theorem am_Sk : am_kS = true := by decide +kernel
set_option maxRecDepth 100000 in
theorem am_Nk : am_kN = true := by decide +kernel
set_option maxRecDepth 100000 in
theorem am_Vk : am_kV = true := by decide +kernel
set_option maxRecDepth 100000 in
theorem am_Xk : am_kX = true := by decide +kernel
set_option maxRecDepth 100000 in
theorem am_Jk : (List.range 365).all am_kJ = true := by decide +kernel
set_option maxRecDepth 100000 in
theorem am_Gk : am_kG = true := by decide +kernel
set_option maxRecDepth 100000 in
theorem am_Uk : am_kU = true := by decide +kernel
set_option maxRecDepth 100000 in
theorem am_CCk : am_in (.classLink RJ7 311 "[B") = true := by decide +kernel
