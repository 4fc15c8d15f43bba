/-! the law's cuts, checked -/
set_option maxRecDepth 100000 in
theorem yck_464 : yck (464, [yLC_464]) = true := by decide +kernel
set_option maxRecDepth 100000 in
theorem yck_527 : yck (527, [yLC_527]) = true := by decide +kernel
set_option maxRecDepth 100000 in
theorem yck_590 : yck (590, [yLC_590]) = true := by decide +kernel
set_option maxRecDepth 100000 in
theorem yck_613 : yck (613, [yLC_613]) = true := by decide +kernel
set_option maxRecDepth 100000 in
theorem yck_636 : yck (636, [yLC_636]) = true := by decide +kernel
set_option maxRecDepth 100000 in
theorem yck_659 : yck (659, [yLC_659]) = true := by decide +kernel
set_option maxRecDepth 100000 in
theorem yck_682 : yck (682, [yLC_682]) = true := by decide +kernel
set_option maxRecDepth 100000 in
theorem yck_705 : yck (705, [yLC_705]) = true := by decide +kernel
set_option maxRecDepth 100000 in
theorem yck_738 : yck (738, [yLC_738]) = true := by decide +kernel
set_option maxRecDepth 100000 in
theorem yck_771 : yck (771, [yLC_771]) = true := by decide +kernel
