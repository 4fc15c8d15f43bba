/-! the law's cuts, checked -/
set_option maxRecDepth 100000 in
theorem yck_1655 : yck (1655, [yLC_1655]) = true := by decide +kernel
set_option maxRecDepth 100000 in
theorem yck_1680 : yck (1680, [yLC_1680]) = true := by decide +kernel
set_option maxRecDepth 100000 in
theorem yck_1708 : yck (1708, [yLC_1708]) = true := by decide +kernel
set_option maxRecDepth 100000 in
theorem yck_1718 : yck (1718, [yLC_1718]) = true := by decide +kernel
set_option maxRecDepth 100000 in
theorem yck_1731 : yck (1731, [yLC_1731]) = true := by decide +kernel
set_option maxRecDepth 100000 in
theorem yck_1746 : yck (1746, [yLC_1746]) = true := by decide +kernel
set_option maxRecDepth 100000 in
theorem yck_1764 : yck (1764, [yLC_1764]) = true := by decide +kernel
set_option maxRecDepth 100000 in
theorem yck_1774 : yck (1774, [yLC_1774]) = true := by decide +kernel
set_option maxRecDepth 100000 in
theorem yck_1787 : yck (1787, [yLC_1787]) = true := by decide +kernel
set_option maxRecDepth 100000 in
theorem yck_1802 : yck (1802, [yLC_1802]) = true := by decide +kernel
set_option maxRecDepth 100000 in
theorem yck_1820 : yck (1820, [yLC_1820]) = true := by decide +kernel
set_option maxRecDepth 100000 in
theorem yck_1835 : yck (1835, [yLC_1835]) = true := by decide +kernel
set_option maxRecDepth 100000 in
theorem yck_1853 : yck (1853, [yLC_1853]) = true := by decide +kernel
set_option maxRecDepth 100000 in
theorem yck_1858 : yck (1858, [yLC_1858]) = true := by decide +kernel
set_option maxRecDepth 100000 in
theorem yck_1866 : yck (1866, [yLC_1866]) = true := by decide +kernel
set_option maxRecDepth 100000 in
theorem yck_1871 : yck (1871, [yLC_1871]) = true := by decide +kernel
set_option maxRecDepth 100000 in
theorem yck_1879 : yck (1879, [yLC_1879]) = true := by decide +kernel
set_option maxRecDepth 100000 in
theorem yck_1884 : yck (1884, [yLC_1884]) = true := by decide +kernel
set_option maxRecDepth 100000 in
theorem yck_1892 : yck (1892, [yLC_1892]) = true := by decide +kernel
set_option maxRecDepth 100000 in
theorem yck_1907 : yck (1907, [yLC_1907]) = true := by decide +kernel
set_option maxRecDepth 100000 in
theorem yck_1925 : yck (1925, [yLC_1925]) = true := by decide +kernel
set_option maxRecDepth 100000 in
theorem yck_1935 : yck (1935, [yLC_1935]) = true := by decide +kernel
set_option maxRecDepth 100000 in
theorem yck_1948 : yck (1948, [yLC_1948]) = true := by decide +kernel
set_option maxRecDepth 100000 in
theorem yck_1963 : yck (1963, [yLC_1963]) = true := by decide +kernel
set_option maxRecDepth 100000 in
theorem yck_1981 : yck (1981, [yLC_1981]) = true := by decide +kernel
set_option maxRecDepth 100000 in
theorem yck_1996 : yck (1996, [yLC_1996]) = true := by decide +kernel
set_option maxRecDepth 100000 in
theorem yck_2014 : yck (2014, [yLC_2014]) = true := by decide +kernel
set_option maxRecDepth 100000 in
theorem yck_2037 : yck (2037, [yLC_2037]) = true := by decide +kernel
set_option maxRecDepth 100000 in
theorem yck_2047 : yck (2047, [yLC_2047]) = true := by decide +kernel
set_option maxRecDepth 100000 in
theorem yck_2060 : yck (2060, [yLC_2060]) = true := by decide +kernel
set_option maxRecDepth 100000 in
theorem yck_2075 : yck (2075, [yLC_2075]) = true := by decide +kernel
set_option maxRecDepth 100000 in
theorem yck_2093 : yck (2093, [yLC_2093]) = true := by decide +kernel
set_option maxRecDepth 100000 in
theorem yck_2106 : yck (2106, [yLC_2106]) = true := by decide +kernel
