/-! certificates, checked -/
set_option maxRecDepth 100000 in
theorem ych_127 : ych 127 = true := by decide +kernel
