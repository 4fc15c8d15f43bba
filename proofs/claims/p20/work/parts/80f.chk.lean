/-! certificates, checked -/
set_option maxRecDepth 100000 in
theorem ych_18 : ych 18 = true := by decide +kernel
