/-! certificates, checked -/
set_option maxRecDepth 100000 in
theorem ych_198 : ych 198 = true := by decide +kernel
