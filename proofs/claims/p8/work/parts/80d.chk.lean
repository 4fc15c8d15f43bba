/-! certificates, checked -/
set_option maxRecDepth 100000 in
theorem ych_178 : ych 178 = true := by decide +kernel
