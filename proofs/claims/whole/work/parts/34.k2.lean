/-! kinds and lengths, 250 on -/
set_option maxRecDepth 1000000 in
theorem ab_kK2 : ab_kKs ab_M4 250 120 = true := by decide +kernel
