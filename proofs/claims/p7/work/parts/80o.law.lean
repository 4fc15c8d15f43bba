/-! the law's cuts, checked -/
set_option maxRecDepth 100000 in
theorem yck_992 : yck (992, [yLC_992]) = true := by decide +kernel
set_option maxRecDepth 100000 in
theorem yck_1020 : yck (1020, [yLC_1020]) = true := by decide +kernel
set_option maxRecDepth 100000 in
theorem yck_1040 : yck (1040, [yLC_1040]) = true := by decide +kernel
set_option maxRecDepth 100000 in
theorem yck_1063 : yck (1063, [yLC_1063]) = true := by decide +kernel
set_option maxRecDepth 100000 in
theorem yck_1088 : yck (1088, [yLC_1088]) = true := by decide +kernel
set_option maxRecDepth 100000 in
theorem yck_1116 : yck (1116, [yLC_1116]) = true := by decide +kernel
set_option maxRecDepth 100000 in
theorem yck_1141 : yck (1141, [yLC_1141]) = true := by decide +kernel
set_option maxRecDepth 100000 in
theorem yck_1169 : yck (1169, [yLC_1169]) = true := by decide +kernel
set_option maxRecDepth 100000 in
theorem yck_1189 : yck (1189, [yLC_1189]) = true := by decide +kernel
set_option maxRecDepth 100000 in
theorem yck_1212 : yck (1212, [yLC_1212]) = true := by decide +kernel
set_option maxRecDepth 100000 in
theorem yck_1222 : yck (1222, [yLC_1222]) = true := by decide +kernel
set_option maxRecDepth 100000 in
theorem yck_1235 : yck (1235, [yLC_1235]) = true := by decide +kernel
set_option maxRecDepth 100000 in
theorem yck_1250 : yck (1250, [yLC_1250]) = true := by decide +kernel
