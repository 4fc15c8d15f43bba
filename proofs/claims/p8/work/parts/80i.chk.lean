/-! certificates, checked -/
set_option maxRecDepth 100000 in
theorem ych_211 : ych 211 = true := by decide +kernel
