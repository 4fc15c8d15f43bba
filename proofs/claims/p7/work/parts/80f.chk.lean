/-! certificates, checked -/
set_option maxRecDepth 100000 in
theorem ych_207 : ych 207 = true := by decide +kernel
