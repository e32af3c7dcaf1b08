/-! ints, 0 -/
set_option maxRecDepth 1000000 in
theorem ab_kI0 : ab_kI ab_M4 [(0, 11), (1, 2), (3, 2), (5, 7), (38, 3), (52, 3), (65, 11)] = true := by decide +kernel
