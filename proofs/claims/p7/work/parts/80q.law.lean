/-! the law's cuts, checked -/
set_option maxRecDepth 100000 in
theorem yck_1964 : yck (1964, [yLC_1964]) = true := by decide +kernel
set_option maxRecDepth 100000 in
theorem yck_1982 : yck (1982, [yLC_1982]) = true := by decide +kernel
set_option maxRecDepth 100000 in
theorem yck_1997 : yck (1997, [yLC_1997]) = true := by decide +kernel
set_option maxRecDepth 100000 in
theorem yck_2015 : yck (2015, [yLC_2015]) = true := by decide +kernel
set_option maxRecDepth 100000 in
theorem yck_2025 : yck (2025, [yLC_2025]) = true := by decide +kernel
set_option maxRecDepth 100000 in
theorem yck_2038 : yck (2038, [yLC_2038]) = true := by decide +kernel
set_option maxRecDepth 100000 in
theorem yck_2048 : yck (2048, [yLC_2048]) = true := by decide +kernel
set_option maxRecDepth 100000 in
theorem yck_2061 : yck (2061, [yLC_2061]) = true := by decide +kernel
set_option maxRecDepth 100000 in
theorem yck_2076 : yck (2076, [yLC_2076]) = true := by decide +kernel
set_option maxRecDepth 100000 in
theorem yck_2094 : yck (2094, [yLC_2094]) = true := by decide +kernel
set_option maxRecDepth 100000 in
theorem yck_2099 : yck (2099, [yLC_2099]) = true := by decide +kernel
set_option maxRecDepth 100000 in
theorem yck_2107 : yck (2107, [yLC_2107]) = true := by decide +kernel
set_option maxRecDepth 100000 in
theorem yck_2112 : yck (2112, [yLC_2112]) = true := by decide +kernel
