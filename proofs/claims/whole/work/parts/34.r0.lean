/-! refs, 0 on -/
set_option maxRecDepth 1000000 in
theorem ab_kR0 : ab_kRs ab_M4 0 130 = true := by decide +kernel
