/-! certificates, checked -/
set_option maxRecDepth 100000 in
theorem ych_20 : ych 20 = true := by decide +kernel
