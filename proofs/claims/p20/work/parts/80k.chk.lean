/-! certificates, checked -/
set_option maxRecDepth 100000 in
theorem ych_151 : ych 151 = true := by decide +kernel
