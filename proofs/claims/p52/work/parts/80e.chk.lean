/-! certificates, checked -/
set_option maxRecDepth 100000 in
theorem ych_132 : ych 132 = true := by decide +kernel
