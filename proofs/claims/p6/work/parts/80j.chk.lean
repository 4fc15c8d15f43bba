/-! certificates, checked -/
set_option maxRecDepth 100000 in
theorem ych_130 : ych 130 = true := by decide +kernel
