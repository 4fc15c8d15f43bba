/-! the law's cuts, checked -/
set_option maxRecDepth 100000 in
theorem yck_1115 : yck (1115, [yLC_1115]) = true := by decide +kernel
set_option maxRecDepth 100000 in
theorem yck_1168 : yck (1168, [yLC_1168]) = true := by decide +kernel
set_option maxRecDepth 100000 in
theorem yck_1211 : yck (1211, [yLC_1211]) = true := by decide +kernel
