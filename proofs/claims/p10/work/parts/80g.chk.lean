/-! certificates, checked -/
set_option maxRecDepth 100000 in
theorem ych_110 : ych 110 = true := by decide +kernel
