/-! the law's cuts, checked -/
set_option maxRecDepth 100000 in
theorem yck_1268 : yck (1268, [yLC_1268]) = true := by decide +kernel
set_option maxRecDepth 100000 in
theorem yck_1283 : yck (1283, [yLC_1283]) = true := by decide +kernel
set_option maxRecDepth 100000 in
theorem yck_1301 : yck (1301, [yLC_1301]) = true := by decide +kernel
set_option maxRecDepth 100000 in
theorem yck_1311 : yck (1311, [yLC_1311]) = true := by decide +kernel
set_option maxRecDepth 100000 in
theorem yck_1324 : yck (1324, [yLC_1324]) = true := by decide +kernel
set_option maxRecDepth 100000 in
theorem yck_1339 : yck (1339, [yLC_1339]) = true := by decide +kernel
set_option maxRecDepth 100000 in
theorem yck_1357 : yck (1357, [yLC_1357]) = true := by decide +kernel
set_option maxRecDepth 100000 in
theorem yck_1372 : yck (1372, [yLC_1372]) = true := by decide +kernel
set_option maxRecDepth 100000 in
theorem yck_1390 : yck (1390, [yLC_1390]) = true := by decide +kernel
set_option maxRecDepth 100000 in
theorem yck_1405 : yck (1405, [yLC_1405]) = true := by decide +kernel
set_option maxRecDepth 100000 in
theorem yck_1423 : yck (1423, [yLC_1423]) = true := by decide +kernel
set_option maxRecDepth 100000 in
theorem yck_1446 : yck (1446, [yLC_1446]) = true := by decide +kernel
set_option maxRecDepth 100000 in
theorem yck_1472 : yck (1472, [yLC_1472]) = true := by decide +kernel
set_option maxRecDepth 100000 in
theorem yck_1500 : yck (1500, [yLC_1500]) = true := by decide +kernel
set_option maxRecDepth 100000 in
theorem yck_1531 : yck (1531, [yLC_1531]) = true := by decide +kernel
set_option maxRecDepth 100000 in
theorem yck_1541 : yck (1541, [yLC_1541]) = true := by decide +kernel
set_option maxRecDepth 100000 in
theorem yck_1554 : yck (1554, [yLC_1554]) = true := by decide +kernel
set_option maxRecDepth 100000 in
theorem yck_1564 : yck (1564, [yLC_1564]) = true := by decide +kernel
set_option maxRecDepth 100000 in
theorem yck_1577 : yck (1577, [yLC_1577]) = true := by decide +kernel
set_option maxRecDepth 100000 in
theorem yck_1587 : yck (1587, [yLC_1587]) = true := by decide +kernel
set_option maxRecDepth 100000 in
theorem yck_1600 : yck (1600, [yLC_1600]) = true := by decide +kernel
set_option maxRecDepth 100000 in
theorem yck_1610 : yck (1610, [yLC_1610]) = true := by decide +kernel
set_option maxRecDepth 100000 in
theorem yck_1623 : yck (1623, [yLC_1623]) = true := by decide +kernel
set_option maxRecDepth 100000 in
theorem yck_1638 : yck (1638, [yLC_1638]) = true := by decide +kernel
set_option maxRecDepth 100000 in
theorem yck_1656 : yck (1656, [yLC_1656]) = true := by decide +kernel
set_option maxRecDepth 100000 in
theorem yck_1681 : yck (1681, [yLC_1681]) = true := by decide +kernel
set_option maxRecDepth 100000 in
theorem yck_1709 : yck (1709, [yLC_1709]) = true := by decide +kernel
set_option maxRecDepth 100000 in
theorem yck_1719 : yck (1719, [yLC_1719]) = true := by decide +kernel
set_option maxRecDepth 100000 in
theorem yck_1732 : yck (1732, [yLC_1732]) = true := by decide +kernel
set_option maxRecDepth 100000 in
theorem yck_1747 : yck (1747, [yLC_1747]) = true := by decide +kernel
set_option maxRecDepth 100000 in
theorem yck_1765 : yck (1765, [yLC_1765]) = true := by decide +kernel
set_option maxRecDepth 100000 in
theorem yck_1775 : yck (1775, [yLC_1775]) = true := by decide +kernel
set_option maxRecDepth 100000 in
theorem yck_1788 : yck (1788, [yLC_1788]) = true := by decide +kernel
set_option maxRecDepth 100000 in
theorem yck_1803 : yck (1803, [yLC_1803]) = true := by decide +kernel
set_option maxRecDepth 100000 in
theorem yck_1821 : yck (1821, [yLC_1821]) = true := by decide +kernel
set_option maxRecDepth 100000 in
theorem yck_1836 : yck (1836, [yLC_1836]) = true := by decide +kernel
set_option maxRecDepth 100000 in
theorem yck_1854 : yck (1854, [yLC_1854]) = true := by decide +kernel
set_option maxRecDepth 100000 in
theorem yck_1859 : yck (1859, [yLC_1859]) = true := by decide +kernel
set_option maxRecDepth 100000 in
theorem yck_1867 : yck (1867, [yLC_1867]) = true := by decide +kernel
set_option maxRecDepth 100000 in
theorem yck_1872 : yck (1872, [yLC_1872]) = true := by decide +kernel
set_option maxRecDepth 100000 in
theorem yck_1880 : yck (1880, [yLC_1880]) = true := by decide +kernel
set_option maxRecDepth 100000 in
theorem yck_1885 : yck (1885, [yLC_1885]) = true := by decide +kernel
set_option maxRecDepth 100000 in
theorem yck_1893 : yck (1893, [yLC_1893]) = true := by decide +kernel
set_option maxRecDepth 100000 in
theorem yck_1908 : yck (1908, [yLC_1908]) = true := by decide +kernel
set_option maxRecDepth 100000 in
theorem yck_1926 : yck (1926, [yLC_1926]) = true := by decide +kernel
set_option maxRecDepth 100000 in
theorem yck_1936 : yck (1936, [yLC_1936]) = true := by decide +kernel
set_option maxRecDepth 100000 in
theorem yck_1949 : yck (1949, [yLC_1949]) = true := by decide +kernel
