/-! what is owed still -/
theorem law_pure : zPure := sorry
