/-! certificates, checked -/
set_option maxRecDepth 100000 in
theorem ych_205 : ych 205 = true := by decide +kernel
