/-! ints, 2 -/
set_option maxRecDepth 1000000 in
theorem ab_kI2 : ab_kI ab_M4 [(484, 26)] = true := by decide +kernel
