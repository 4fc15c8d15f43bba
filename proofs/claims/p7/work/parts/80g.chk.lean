/-! certificates, checked -/
set_option maxRecDepth 100000 in
theorem ych_217 : ych 217 = true := by decide +kernel
