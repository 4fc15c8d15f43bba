/-! certificates, checked -/
set_option maxRecDepth 100000 in
theorem ych_126 : ych 126 = true := by decide +kernel
