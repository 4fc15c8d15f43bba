/-! certificates, checked -/
set_option maxRecDepth 100000 in
theorem ych_17 : ych 17 = true := by decide +kernel
