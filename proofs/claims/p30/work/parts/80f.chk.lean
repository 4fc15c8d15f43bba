/-! certificates, checked -/
set_option maxRecDepth 100000 in
theorem ych_106 : ych 106 = true := by decide +kernel
