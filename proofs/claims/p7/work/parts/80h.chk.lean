/-! certificates, checked -/
set_option maxRecDepth 100000 in
theorem ych_220 : ych 220 = true := by decide +kernel
