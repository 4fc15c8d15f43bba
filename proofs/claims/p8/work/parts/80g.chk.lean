/-! certificates, checked -/
set_option maxRecDepth 100000 in
theorem ych_123 : ych 123 = true := by decide +kernel
