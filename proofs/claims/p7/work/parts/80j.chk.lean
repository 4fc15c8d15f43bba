/-! certificates, checked -/
set_option maxRecDepth 100000 in
theorem ych_313 : ych 313 = true := by decide +kernel
