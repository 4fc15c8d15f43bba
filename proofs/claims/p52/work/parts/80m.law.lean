/-! the law's cuts, checked -/
set_option maxRecDepth 100000 in
theorem yck_464 : yck (464, [yLC_464]) = true := by decide +kernel
