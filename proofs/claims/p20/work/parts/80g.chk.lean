/-! certificates, checked -/
set_option maxRecDepth 100000 in
theorem ych_111 : ych 111 = true := by decide +kernel
