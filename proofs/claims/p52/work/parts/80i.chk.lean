/-! certificates, checked -/
set_option maxRecDepth 100000 in
theorem ych_281 : ych 281 = true := by decide +kernel
