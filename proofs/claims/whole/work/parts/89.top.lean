/-! what is still owed -/
theorem ak_top : ak_Top := sorry
