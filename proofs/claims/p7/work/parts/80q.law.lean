/-! the law's cuts, checked -/
set_option maxRecDepth 100000 in
theorem yck_1949 : yck (1949, [yLC_1949]) = true := by decide +kernel
set_option maxRecDepth 100000 in
theorem yck_1982 : yck (1982, [yLC_1982]) = true := by decide +kernel
set_option maxRecDepth 100000 in
theorem yck_2015 : yck (2015, [yLC_2015]) = true := by decide +kernel
set_option maxRecDepth 100000 in
theorem yck_2038 : yck (2038, [yLC_2038]) = true := by decide +kernel
set_option maxRecDepth 100000 in
theorem yck_2061 : yck (2061, [yLC_2061]) = true := by decide +kernel
set_option maxRecDepth 100000 in
theorem yck_2094 : yck (2094, [yLC_2094]) = true := by decide +kernel
set_option maxRecDepth 100000 in
theorem yck_2107 : yck (2107, [yLC_2107]) = true := by decide +kernel
