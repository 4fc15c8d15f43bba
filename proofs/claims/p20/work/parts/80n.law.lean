/-! the law's cuts, checked -/
set_option maxRecDepth 100000 in
theorem yck_1019 : yck (1019, [yLC_1019]) = true := by decide +kernel
set_option maxRecDepth 100000 in
theorem yck_1039 : yck (1039, [yLC_1039]) = true := by decide +kernel
set_option maxRecDepth 100000 in
theorem yck_1062 : yck (1062, [yLC_1062]) = true := by decide +kernel
set_option maxRecDepth 100000 in
theorem yck_1087 : yck (1087, [yLC_1087]) = true := by decide +kernel
set_option maxRecDepth 100000 in
theorem yck_1115 : yck (1115, [yLC_1115]) = true := by decide +kernel
set_option maxRecDepth 100000 in
theorem yck_1168 : yck (1168, [yLC_1168]) = true := by decide +kernel
set_option maxRecDepth 100000 in
theorem yck_1211 : yck (1211, [yLC_1211]) = true := by decide +kernel
set_option maxRecDepth 100000 in
theorem yck_1234 : yck (1234, [yLC_1234]) = true := by decide +kernel
set_option maxRecDepth 100000 in
theorem yck_1267 : yck (1267, [yLC_1267]) = true := by decide +kernel
set_option maxRecDepth 100000 in
theorem yck_1300 : yck (1300, [yLC_1300]) = true := by decide +kernel
set_option maxRecDepth 100000 in
theorem yck_1323 : yck (1323, [yLC_1323]) = true := by decide +kernel
set_option maxRecDepth 100000 in
theorem yck_1338 : yck (1338, [yLC_1338]) = true := by decide +kernel
set_option maxRecDepth 100000 in
theorem yck_1356 : yck (1356, [yLC_1356]) = true := by decide +kernel
set_option maxRecDepth 100000 in
theorem yck_1371 : yck (1371, [yLC_1371]) = true := by decide +kernel
set_option maxRecDepth 100000 in
theorem yck_1389 : yck (1389, [yLC_1389]) = true := by decide +kernel
set_option maxRecDepth 100000 in
theorem yck_1404 : yck (1404, [yLC_1404]) = true := by decide +kernel
set_option maxRecDepth 100000 in
theorem yck_1422 : yck (1422, [yLC_1422]) = true := by decide +kernel
set_option maxRecDepth 100000 in
theorem yck_1445 : yck (1445, [yLC_1445]) = true := by decide +kernel
set_option maxRecDepth 100000 in
theorem yck_1471 : yck (1471, [yLC_1471]) = true := by decide +kernel
set_option maxRecDepth 100000 in
theorem yck_1499 : yck (1499, [yLC_1499]) = true := by decide +kernel
set_option maxRecDepth 100000 in
theorem yck_1530 : yck (1530, [yLC_1530]) = true := by decide +kernel
set_option maxRecDepth 100000 in
theorem yck_1540 : yck (1540, [yLC_1540]) = true := by decide +kernel
set_option maxRecDepth 100000 in
theorem yck_1553 : yck (1553, [yLC_1553]) = true := by decide +kernel
set_option maxRecDepth 100000 in
theorem yck_1563 : yck (1563, [yLC_1563]) = true := by decide +kernel
set_option maxRecDepth 100000 in
theorem yck_1576 : yck (1576, [yLC_1576]) = true := by decide +kernel
set_option maxRecDepth 100000 in
theorem yck_1586 : yck (1586, [yLC_1586]) = true := by decide +kernel
set_option maxRecDepth 100000 in
theorem yck_1599 : yck (1599, [yLC_1599]) = true := by decide +kernel
set_option maxRecDepth 100000 in
theorem yck_1609 : yck (1609, [yLC_1609]) = true := by decide +kernel
set_option maxRecDepth 100000 in
theorem yck_1622 : yck (1622, [yLC_1622]) = true := by decide +kernel
set_option maxRecDepth 100000 in
theorem yck_1637 : yck (1637, [yLC_1637]) = true := by decide +kernel
