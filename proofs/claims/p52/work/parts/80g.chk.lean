/-! certificates, checked -/
set_option maxRecDepth 100000 in
theorem ych_144 : ych 144 = true := by decide +kernel
