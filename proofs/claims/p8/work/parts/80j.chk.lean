/-! certificates, checked -/
set_option maxRecDepth 100000 in
theorem ych_292 : ych 292 = true := by decide +kernel
