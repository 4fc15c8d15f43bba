/-! certificates, checked -/
set_option maxRecDepth 100000 in
theorem ych_147 : ych 147 = true := by decide +kernel
