/-! ints, 1 -/
set_option maxRecDepth 1000000 in
theorem ab_kI1 : ab_kI ab_M4 [(69, 6), (81, 3), (161, 3), (483, 29)] = true := by decide +kernel
