/-! certificates, checked -/
set_option maxRecDepth 100000 in
theorem ych_16 : ych 16 = true := by decide +kernel
