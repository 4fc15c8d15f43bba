/-! certificates, checked -/
set_option maxRecDepth 100000 in
theorem ych_277 : ych 277 = true := by decide +kernel
