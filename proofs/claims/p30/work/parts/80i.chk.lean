/-! certificates, checked -/
set_option maxRecDepth 100000 in
theorem ych_129 : ych 129 = true := by decide +kernel
