/-! certificates, checked -/
set_option maxRecDepth 100000 in
theorem ych_15 : ych 15 = true := by decide +kernel
