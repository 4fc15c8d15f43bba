/-! certificates, checked -/
set_option maxRecDepth 100000 in
theorem ych_186 : ych 186 = true := by decide +kernel
