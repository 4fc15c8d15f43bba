/-! certificates, checked -/
set_option maxRecDepth 100000 in
theorem ych_310 : ych 310 = true := by decide +kernel
