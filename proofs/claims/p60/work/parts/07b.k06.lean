/-! the tables, decided by the kernel -/
set_option maxRecDepth 100000 in
theorem am_Kc18 : (List.range 5).all (fun j => am_kK (360 + j)) = true := by decide +kernel
theorem am_Kc_all (k : Nat) (h : k < 365) : am_kK k = true := by
  by_cases h0 : k < 20
  · have := List.all_eq_true.mp am_Kc0 (k - 0) (List.mem_range.mpr (by omega))
    rwa [show 0 + (k - 0) = k by omega] at this
  by_cases h1 : k < 40
  · have := List.all_eq_true.mp am_Kc1 (k - 20) (List.mem_range.mpr (by omega))
    rwa [show 20 + (k - 20) = k by omega] at this
  by_cases h2 : k < 60
  · have := List.all_eq_true.mp am_Kc2 (k - 40) (List.mem_range.mpr (by omega))
    rwa [show 40 + (k - 40) = k by omega] at this
  by_cases h3 : k < 80
  · have := List.all_eq_true.mp am_Kc3 (k - 60) (List.mem_range.mpr (by omega))
    rwa [show 60 + (k - 60) = k by omega] at this
  by_cases h4 : k < 100
  · have := List.all_eq_true.mp am_Kc4 (k - 80) (List.mem_range.mpr (by omega))
    rwa [show 80 + (k - 80) = k by omega] at this
  by_cases h5 : k < 120
  · have := List.all_eq_true.mp am_Kc5 (k - 100) (List.mem_range.mpr (by omega))
    rwa [show 100 + (k - 100) = k by omega] at this
  by_cases h6 : k < 140
  · have := List.all_eq_true.mp am_Kc6 (k - 120) (List.mem_range.mpr (by omega))
    rwa [show 120 + (k - 120) = k by omega] at this
  by_cases h7 : k < 160
  · have := List.all_eq_true.mp am_Kc7 (k - 140) (List.mem_range.mpr (by omega))
    rwa [show 140 + (k - 140) = k by omega] at this
  by_cases h8 : k < 180
  · have := List.all_eq_true.mp am_Kc8 (k - 160) (List.mem_range.mpr (by omega))
    rwa [show 160 + (k - 160) = k by omega] at this
  by_cases h9 : k < 200
  · have := List.all_eq_true.mp am_Kc9 (k - 180) (List.mem_range.mpr (by omega))
    rwa [show 180 + (k - 180) = k by omega] at this
  by_cases h10 : k < 220
  · have := List.all_eq_true.mp am_Kc10 (k - 200) (List.mem_range.mpr (by omega))
    rwa [show 200 + (k - 200) = k by omega] at this
  by_cases h11 : k < 240
  · have := List.all_eq_true.mp am_Kc11 (k - 220) (List.mem_range.mpr (by omega))
    rwa [show 220 + (k - 220) = k by omega] at this
  by_cases h12 : k < 260
  · have := List.all_eq_true.mp am_Kc12 (k - 240) (List.mem_range.mpr (by omega))
    rwa [show 240 + (k - 240) = k by omega] at this
  by_cases h13 : k < 280
  · have := List.all_eq_true.mp am_Kc13 (k - 260) (List.mem_range.mpr (by omega))
    rwa [show 260 + (k - 260) = k by omega] at this
  by_cases h14 : k < 300
  · have := List.all_eq_true.mp am_Kc14 (k - 280) (List.mem_range.mpr (by omega))
    rwa [show 280 + (k - 280) = k by omega] at this
  by_cases h15 : k < 320
  · have := List.all_eq_true.mp am_Kc15 (k - 300) (List.mem_range.mpr (by omega))
    rwa [show 300 + (k - 300) = k by omega] at this
  by_cases h16 : k < 340
  · have := List.all_eq_true.mp am_Kc16 (k - 320) (List.mem_range.mpr (by omega))
    rwa [show 320 + (k - 320) = k by omega] at this
  by_cases h17 : k < 360
  · have := List.all_eq_true.mp am_Kc17 (k - 340) (List.mem_range.mpr (by omega))
    rwa [show 340 + (k - 340) = k by omega] at this
  by_cases h18 : k < 365
  · have := List.all_eq_true.mp am_Kc18 (k - 360) (List.mem_range.mpr (by omega))
    rwa [show 360 + (k - 360) = k by omega] at this
  · omega
