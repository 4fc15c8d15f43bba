/-! certificates, checked -/
set_option maxRecDepth 100000 in
theorem ych_139 : ych 139 = true := by decide +kernel
