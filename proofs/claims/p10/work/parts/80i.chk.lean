/-! certificates, checked -/
set_option maxRecDepth 100000 in
theorem ych_128 : ych 128 = true := by decide +kernel
