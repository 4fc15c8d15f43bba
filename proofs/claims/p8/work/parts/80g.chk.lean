/-! certificates, checked -/
set_option maxRecDepth 100000 in
theorem ych_196 : ych 196 = true := by decide +kernel
