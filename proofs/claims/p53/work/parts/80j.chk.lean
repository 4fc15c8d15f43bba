/-! certificates, checked -/
set_option maxRecDepth 100000 in
theorem ych_285 : ych 285 = true := by decide +kernel
