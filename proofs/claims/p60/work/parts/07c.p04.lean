/-! the tables, decided by the kernel -/
set_option maxRecDepth 100000 in
theorem am_Pc8 : (List.range 40).all (fun j => am_kP (320 + j)) = true := by decide +kernel
set_option maxRecDepth 100000 in
theorem am_Pc9 : (List.range 5).all (fun j => am_kP (360 + j)) = true := by decide +kernel
theorem am_Pc_all (k : Nat) (h : k < 365) : am_kP k = true := by
  by_cases h0 : k < 40
  · have := List.all_eq_true.mp am_Pc0 (k - 0) (List.mem_range.mpr (by omega))
    rwa [show 0 + (k - 0) = k by omega] at this
  by_cases h1 : k < 80
  · have := List.all_eq_true.mp am_Pc1 (k - 40) (List.mem_range.mpr (by omega))
    rwa [show 40 + (k - 40) = k by omega] at this
  by_cases h2 : k < 120
  · have := List.all_eq_true.mp am_Pc2 (k - 80) (List.mem_range.mpr (by omega))
    rwa [show 80 + (k - 80) = k by omega] at this
  by_cases h3 : k < 160
  · have := List.all_eq_true.mp am_Pc3 (k - 120) (List.mem_range.mpr (by omega))
    rwa [show 120 + (k - 120) = k by omega] at this
  by_cases h4 : k < 200
  · have := List.all_eq_true.mp am_Pc4 (k - 160) (List.mem_range.mpr (by omega))
    rwa [show 160 + (k - 160) = k by omega] at this
  by_cases h5 : k < 240
  · have := List.all_eq_true.mp am_Pc5 (k - 200) (List.mem_range.mpr (by omega))
    rwa [show 200 + (k - 200) = k by omega] at this
  by_cases h6 : k < 280
  · have := List.all_eq_true.mp am_Pc6 (k - 240) (List.mem_range.mpr (by omega))
    rwa [show 240 + (k - 240) = k by omega] at this
  by_cases h7 : k < 320
  · have := List.all_eq_true.mp am_Pc7 (k - 280) (List.mem_range.mpr (by omega))
    rwa [show 280 + (k - 280) = k by omega] at this
  by_cases h8 : k < 360
  · have := List.all_eq_true.mp am_Pc8 (k - 320) (List.mem_range.mpr (by omega))
    rwa [show 320 + (k - 320) = k by omega] at this
  by_cases h9 : k < 365
  · have := List.all_eq_true.mp am_Pc9 (k - 360) (List.mem_range.mpr (by omega))
    rwa [show 360 + (k - 360) = k by omega] at this
  · omega
