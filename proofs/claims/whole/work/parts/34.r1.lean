/-! refs, 130 on -/
set_option maxRecDepth 1000000 in
theorem ab_kR1 : ab_kRs ab_M4 130 120 = true := by decide +kernel
