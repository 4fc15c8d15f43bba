/-! certificates, checked -/
set_option maxRecDepth 100000 in
theorem ych_140 : ych 140 = true := by decide +kernel
