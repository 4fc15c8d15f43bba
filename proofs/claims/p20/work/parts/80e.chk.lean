/-! certificates, checked -/
set_option maxRecDepth 100000 in
theorem ych_14 : ych 14 = true := by decide +kernel
