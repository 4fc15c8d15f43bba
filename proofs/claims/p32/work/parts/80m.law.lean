/-! the law's cuts, checked -/
set_option maxRecDepth 100000 in
theorem yck_938 : yck (938, [yLC_938]) = true := by decide +kernel
set_option maxRecDepth 100000 in
theorem yck_966 : yck (966, [yLC_966]) = true := by decide +kernel
set_option maxRecDepth 100000 in
theorem yck_991 : yck (991, [yLC_991]) = true := by decide +kernel
set_option maxRecDepth 100000 in
theorem yck_1019 : yck (1019, [yLC_1019]) = true := by decide +kernel
set_option maxRecDepth 100000 in
theorem yck_1039 : yck (1039, [yLC_1039]) = true := by decide +kernel
set_option maxRecDepth 100000 in
theorem yck_1062 : yck (1062, [yLC_1062]) = true := by decide +kernel
set_option maxRecDepth 100000 in
theorem yck_1087 : yck (1087, [yLC_1087]) = true := by decide +kernel
set_option maxRecDepth 100000 in
theorem yck_1115 : yck (1115, [yLC_1115]) = true := by decide +kernel
set_option maxRecDepth 100000 in
theorem yck_1140 : yck (1140, [yLC_1140]) = true := by decide +kernel
set_option maxRecDepth 100000 in
theorem yck_1168 : yck (1168, [yLC_1168]) = true := by decide +kernel
