/-! the law's cuts, checked -/
set_option maxRecDepth 100000 in
theorem yck_1234 : yck (1234, [yLC_1234]) = true := by decide +kernel
set_option maxRecDepth 100000 in
theorem yck_1267 : yck (1267, [yLC_1267]) = true := by decide +kernel
set_option maxRecDepth 100000 in
theorem yck_1300 : yck (1300, [yLC_1300]) = true := by decide +kernel
set_option maxRecDepth 100000 in
theorem yck_1323 : yck (1323, [yLC_1323]) = true := by decide +kernel
set_option maxRecDepth 100000 in
theorem yck_1356 : yck (1356, [yLC_1356]) = true := by decide +kernel
set_option maxRecDepth 100000 in
theorem yck_1389 : yck (1389, [yLC_1389]) = true := by decide +kernel
set_option maxRecDepth 100000 in
theorem yck_1422 : yck (1422, [yLC_1422]) = true := by decide +kernel
set_option maxRecDepth 100000 in
theorem yck_1471 : yck (1471, [yLC_1471]) = true := by decide +kernel
set_option maxRecDepth 100000 in
theorem yck_1530 : yck (1530, [yLC_1530]) = true := by decide +kernel
set_option maxRecDepth 100000 in
theorem yck_1553 : yck (1553, [yLC_1553]) = true := by decide +kernel
set_option maxRecDepth 100000 in
theorem yck_1576 : yck (1576, [yLC_1576]) = true := by decide +kernel
set_option maxRecDepth 100000 in
theorem yck_1599 : yck (1599, [yLC_1599]) = true := by decide +kernel
set_option maxRecDepth 100000 in
theorem yck_1622 : yck (1622, [yLC_1622]) = true := by decide +kernel
set_option maxRecDepth 100000 in
theorem yck_1655 : yck (1655, [yLC_1655]) = true := by decide +kernel
set_option maxRecDepth 100000 in
theorem yck_1708 : yck (1708, [yLC_1708]) = true := by decide +kernel
set_option maxRecDepth 100000 in
theorem yck_1731 : yck (1731, [yLC_1731]) = true := by decide +kernel
set_option maxRecDepth 100000 in
theorem yck_1764 : yck (1764, [yLC_1764]) = true := by decide +kernel
set_option maxRecDepth 100000 in
theorem yck_1787 : yck (1787, [yLC_1787]) = true := by decide +kernel
set_option maxRecDepth 100000 in
theorem yck_1820 : yck (1820, [yLC_1820]) = true := by decide +kernel
set_option maxRecDepth 100000 in
theorem yck_1853 : yck (1853, [yLC_1853]) = true := by decide +kernel
set_option maxRecDepth 100000 in
theorem yck_1866 : yck (1866, [yLC_1866]) = true := by decide +kernel
set_option maxRecDepth 100000 in
theorem yck_1879 : yck (1879, [yLC_1879]) = true := by decide +kernel
set_option maxRecDepth 100000 in
theorem yck_1892 : yck (1892, [yLC_1892]) = true := by decide +kernel
set_option maxRecDepth 100000 in
theorem yck_1925 : yck (1925, [yLC_1925]) = true := by decide +kernel
