/-! the law's cuts, checked -/
set_option maxRecDepth 100000 in
theorem yck_1116 : yck (1116, [yLC_1116]) = true := by decide +kernel
set_option maxRecDepth 100000 in
theorem yck_1169 : yck (1169, [yLC_1169]) = true := by decide +kernel
set_option maxRecDepth 100000 in
theorem yck_1212 : yck (1212, [yLC_1212]) = true := by decide +kernel
set_option maxRecDepth 100000 in
theorem yck_1235 : yck (1235, [yLC_1235]) = true := by decide +kernel
