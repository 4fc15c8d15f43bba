/-! certificates, checked -/
set_option maxRecDepth 100000 in
theorem ych_10 : ych 10 = true := by decide +kernel
