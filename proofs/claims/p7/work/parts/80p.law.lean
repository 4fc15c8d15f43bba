/-! the law's cuts, checked -/
set_option maxRecDepth 100000 in
theorem yck_1268 : yck (1268, [yLC_1268]) = true := by decide +kernel
set_option maxRecDepth 100000 in
theorem yck_1301 : yck (1301, [yLC_1301]) = true := by decide +kernel
set_option maxRecDepth 100000 in
theorem yck_1324 : yck (1324, [yLC_1324]) = true := by decide +kernel
set_option maxRecDepth 100000 in
theorem yck_1357 : yck (1357, [yLC_1357]) = true := by decide +kernel
set_option maxRecDepth 100000 in
theorem yck_1390 : yck (1390, [yLC_1390]) = true := by decide +kernel
set_option maxRecDepth 100000 in
theorem yck_1423 : yck (1423, [yLC_1423]) = true := by decide +kernel
set_option maxRecDepth 100000 in
theorem yck_1472 : yck (1472, [yLC_1472]) = true := by decide +kernel
set_option maxRecDepth 100000 in
theorem yck_1531 : yck (1531, [yLC_1531]) = true := by decide +kernel
set_option maxRecDepth 100000 in
theorem yck_1554 : yck (1554, [yLC_1554]) = true := by decide +kernel
set_option maxRecDepth 100000 in
theorem yck_1577 : yck (1577, [yLC_1577]) = true := by decide +kernel
set_option maxRecDepth 100000 in
theorem yck_1600 : yck (1600, [yLC_1600]) = true := by decide +kernel
set_option maxRecDepth 100000 in
theorem yck_1623 : yck (1623, [yLC_1623]) = true := by decide +kernel
set_option maxRecDepth 100000 in
theorem yck_1656 : yck (1656, [yLC_1656]) = true := by decide +kernel
set_option maxRecDepth 100000 in
theorem yck_1709 : yck (1709, [yLC_1709]) = true := by decide +kernel
set_option maxRecDepth 100000 in
theorem yck_1732 : yck (1732, [yLC_1732]) = true := by decide +kernel
set_option maxRecDepth 100000 in
theorem yck_1765 : yck (1765, [yLC_1765]) = true := by decide +kernel
set_option maxRecDepth 100000 in
theorem yck_1788 : yck (1788, [yLC_1788]) = true := by decide +kernel
set_option maxRecDepth 100000 in
theorem yck_1821 : yck (1821, [yLC_1821]) = true := by decide +kernel
set_option maxRecDepth 100000 in
theorem yck_1854 : yck (1854, [yLC_1854]) = true := by decide +kernel
set_option maxRecDepth 100000 in
theorem yck_1867 : yck (1867, [yLC_1867]) = true := by decide +kernel
set_option maxRecDepth 100000 in
theorem yck_1880 : yck (1880, [yLC_1880]) = true := by decide +kernel
set_option maxRecDepth 100000 in
theorem yck_1893 : yck (1893, [yLC_1893]) = true := by decide +kernel
set_option maxRecDepth 100000 in
theorem yck_1926 : yck (1926, [yLC_1926]) = true := by decide +kernel
