/-! the law's cuts, checked -/
set_option maxRecDepth 100000 in
theorem yck_1020 : yck (1020, [yLC_1020]) = true := by decide +kernel
set_option maxRecDepth 100000 in
theorem yck_1063 : yck (1063, [yLC_1063]) = true := by decide +kernel
