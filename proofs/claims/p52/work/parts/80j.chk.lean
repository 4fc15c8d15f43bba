/-! certificates, checked -/
set_option maxRecDepth 100000 in
theorem ych_289 : ych 289 = true := by decide +kernel
