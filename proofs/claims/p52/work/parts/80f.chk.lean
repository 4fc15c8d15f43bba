/-! certificates, checked -/
set_option maxRecDepth 100000 in
theorem ych_134 : ych 134 = true := by decide +kernel
