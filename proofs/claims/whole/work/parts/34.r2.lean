/-! refs, 250 on -/
set_option maxRecDepth 1000000 in
theorem ab_kR2 : ab_kRs ab_M4 250 120 = true := by decide +kernel
