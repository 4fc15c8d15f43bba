/-! the law's cuts, checked -/
set_option maxRecDepth 100000 in
theorem yck_1115 : yck (1115, [yLC_1115]) = true := by decide +kernel
set_option maxRecDepth 100000 in
theorem yck_1140 : yck (1140, [yLC_1140]) = true := by decide +kernel
set_option maxRecDepth 100000 in
theorem yck_1168 : yck (1168, [yLC_1168]) = true := by decide +kernel
set_option maxRecDepth 100000 in
theorem yck_1188 : yck (1188, [yLC_1188]) = true := by decide +kernel
set_option maxRecDepth 100000 in
theorem yck_1211 : yck (1211, [yLC_1211]) = true := by decide +kernel
set_option maxRecDepth 100000 in
theorem yck_1221 : yck (1221, [yLC_1221]) = true := by decide +kernel
set_option maxRecDepth 100000 in
theorem yck_1234 : yck (1234, [yLC_1234]) = true := by decide +kernel
set_option maxRecDepth 100000 in
theorem yck_1249 : yck (1249, [yLC_1249]) = true := by decide +kernel
set_option maxRecDepth 100000 in
theorem yck_1267 : yck (1267, [yLC_1267]) = true := by decide +kernel
set_option maxRecDepth 100000 in
theorem yck_1282 : yck (1282, [yLC_1282]) = true := by decide +kernel
set_option maxRecDepth 100000 in
theorem yck_1300 : yck (1300, [yLC_1300]) = true := by decide +kernel
set_option maxRecDepth 100000 in
theorem yck_1310 : yck (1310, [yLC_1310]) = true := by decide +kernel
set_option maxRecDepth 100000 in
theorem yck_1323 : yck (1323, [yLC_1323]) = true := by decide +kernel
set_option maxRecDepth 100000 in
theorem yck_1338 : yck (1338, [yLC_1338]) = true := by decide +kernel
set_option maxRecDepth 100000 in
theorem yck_1356 : yck (1356, [yLC_1356]) = true := by decide +kernel
set_option maxRecDepth 100000 in
theorem yck_1371 : yck (1371, [yLC_1371]) = true := by decide +kernel
set_option maxRecDepth 100000 in
theorem yck_1389 : yck (1389, [yLC_1389]) = true := by decide +kernel
set_option maxRecDepth 100000 in
theorem yck_1404 : yck (1404, [yLC_1404]) = true := by decide +kernel
set_option maxRecDepth 100000 in
theorem yck_1422 : yck (1422, [yLC_1422]) = true := by decide +kernel
