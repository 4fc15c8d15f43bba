/-! certificates, checked -/
set_option maxRecDepth 100000 in
theorem ych_109 : ych 109 = true := by decide +kernel
