/-! kinds and lengths, 370 on -/
set_option maxRecDepth 1000000 in
theorem ab_kK3 : ab_kKs ab_M4 370 129 = true := by decide +kernel
