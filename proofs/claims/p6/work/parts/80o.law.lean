/-! the law's cuts, checked -/
set_option maxRecDepth 100000 in
theorem yck_464 : yck (464, [yLC_464]) = true := by decide +kernel
set_option maxRecDepth 100000 in
theorem yck_494 : yck (494, [yLC_494]) = true := by decide +kernel
set_option maxRecDepth 100000 in
theorem yck_527 : yck (527, [yLC_527]) = true := by decide +kernel
