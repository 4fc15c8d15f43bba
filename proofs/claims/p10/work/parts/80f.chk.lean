/-! certificates, checked -/
set_option maxRecDepth 100000 in
theorem ych_105 : ych 105 = true := by decide +kernel
