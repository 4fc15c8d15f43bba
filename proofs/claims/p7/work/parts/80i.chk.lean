/-! certificates, checked -/
set_option maxRecDepth 100000 in
theorem ych_305 : ych 305 = true := by decide +kernel
