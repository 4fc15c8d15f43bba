/-! certificates, checked -/
set_option maxRecDepth 100000 in
theorem ych_114 : ych 114 = true := by decide +kernel
