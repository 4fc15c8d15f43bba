/-! the law's cuts, checked -/
set_option maxRecDepth 100000 in
theorem yck_1019 : yck (1019, [yLC_1019]) = true := by decide +kernel
set_option maxRecDepth 100000 in
theorem yck_1062 : yck (1062, [yLC_1062]) = true := by decide +kernel
