/-! certificates, checked -/
set_option maxRecDepth 100000 in
theorem ych_137 : ych 137 = true := by decide +kernel
