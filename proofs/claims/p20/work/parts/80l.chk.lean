/-! certificates, checked -/
set_option maxRecDepth 100000 in
theorem ych_233 : ych 233 = true := by decide +kernel
