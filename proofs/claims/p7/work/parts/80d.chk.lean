/-! certificates, checked -/
set_option maxRecDepth 100000 in
theorem ych_199 : ych 199 = true := by decide +kernel
