/-! certificates, checked -/
set_option maxRecDepth 100000 in
theorem ych_232 : ych 232 = true := by decide +kernel
