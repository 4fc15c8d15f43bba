/-! certificates, checked -/
set_option maxRecDepth 100000 in
theorem ych_141 : ych 141 = true := by decide +kernel
