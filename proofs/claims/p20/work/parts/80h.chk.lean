/-! certificates, checked -/
set_option maxRecDepth 100000 in
theorem ych_119 : ych 119 = true := by decide +kernel
