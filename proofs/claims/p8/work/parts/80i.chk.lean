/-! certificates, checked -/
set_option maxRecDepth 100000 in
theorem ych_284 : ych 284 = true := by decide +kernel
