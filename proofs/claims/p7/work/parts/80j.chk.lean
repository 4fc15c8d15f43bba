/-! certificates, checked -/
set_option maxRecDepth 100000 in
theorem ych_240 : ych 240 = true := by decide +kernel
