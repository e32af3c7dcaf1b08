/-! kinds and lengths, 0 on -/
set_option maxRecDepth 1000000 in
theorem ab_kK0 : ab_kKs ab_M4 0 130 = true := by decide +kernel
