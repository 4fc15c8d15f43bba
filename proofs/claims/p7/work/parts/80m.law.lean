/-! the law's cuts, checked -/
set_option maxRecDepth 100000 in
theorem yck_465 : yck (465, [yLC_465]) = true := by decide +kernel
