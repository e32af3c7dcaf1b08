/-! kinds and lengths, 130 on -/
set_option maxRecDepth 1000000 in
theorem ab_kK1 : ab_kKs ab_M4 130 120 = true := by decide +kernel
