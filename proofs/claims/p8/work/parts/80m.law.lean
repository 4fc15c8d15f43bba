/-! the law's cuts, checked -/
set_option maxRecDepth 100000 in
theorem yck_794 : yck (794, [yLC_794]) = true := by decide +kernel
set_option maxRecDepth 100000 in
theorem yck_827 : yck (827, [yLC_827]) = true := by decide +kernel
set_option maxRecDepth 100000 in
theorem yck_860 : yck (860, [yLC_860]) = true := by decide +kernel
set_option maxRecDepth 100000 in
theorem yck_913 : yck (913, [yLC_913]) = true := by decide +kernel
set_option maxRecDepth 100000 in
theorem yck_966 : yck (966, [yLC_966]) = true := by decide +kernel
