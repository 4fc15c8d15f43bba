/-! certificates, checked -/
set_option maxRecDepth 100000 in
theorem ych_184 : ych 184 = true := by decide +kernel
