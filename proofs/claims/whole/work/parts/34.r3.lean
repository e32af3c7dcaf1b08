/-! refs, 370 on -/
set_option maxRecDepth 1000000 in
theorem ab_kR3 : ab_kRs ab_M4 370 129 = true := by decide +kernel
