/-! certificates, checked -/
set_option maxRecDepth 100000 in
theorem ych_113 : ych 113 = true := by decide +kernel
