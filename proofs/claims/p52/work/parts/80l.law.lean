/-! the law's cuts, checked -/
set_option maxRecDepth 100000 in
theorem yck_431 : yck (431, [yLC_431]) = true := by decide +kernel
set_option maxRecDepth 100000 in
theorem yck_446 : yck (446, [yLC_446]) = true := by decide +kernel
