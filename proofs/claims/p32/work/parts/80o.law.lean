/-! the law's cuts, checked -/
set_option maxRecDepth 100000 in
theorem yck_1948 : yck (1948, [yLC_1948]) = true := by decide +kernel
set_option maxRecDepth 100000 in
theorem yck_1963 : yck (1963, [yLC_1963]) = true := by decide +kernel
set_option maxRecDepth 100000 in
theorem yck_1981 : yck (1981, [yLC_1981]) = true := by decide +kernel
set_option maxRecDepth 100000 in
theorem yck_1996 : yck (1996, [yLC_1996]) = true := by decide +kernel
set_option maxRecDepth 100000 in
theorem yck_2014 : yck (2014, [yLC_2014]) = true := by decide +kernel
set_option maxRecDepth 100000 in
theorem yck_2024 : yck (2024, [yLC_2024]) = true := by decide +kernel
set_option maxRecDepth 100000 in
theorem yck_2037 : yck (2037, [yLC_2037]) = true := by decide +kernel
set_option maxRecDepth 100000 in
theorem yck_2047 : yck (2047, [yLC_2047]) = true := by decide +kernel
set_option maxRecDepth 100000 in
theorem yck_2060 : yck (2060, [yLC_2060]) = true := by decide +kernel
set_option maxRecDepth 100000 in
theorem yck_2075 : yck (2075, [yLC_2075]) = true := by decide +kernel
set_option maxRecDepth 100000 in
theorem yck_2093 : yck (2093, [yLC_2093]) = true := by decide +kernel
set_option maxRecDepth 100000 in
theorem yck_2106 : yck (2106, [yLC_2106]) = true := by decide +kernel
