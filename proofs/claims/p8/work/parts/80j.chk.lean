/-! certificates, checked -/
set_option maxRecDepth 100000 in
theorem ych_219 : ych 219 = true := by decide +kernel
