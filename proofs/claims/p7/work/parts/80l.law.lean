/-! the law's cuts, checked -/
set_option maxRecDepth 100000 in
theorem yck_465 : yck (465, [yLC_465]) = true := by decide +kernel
set_option maxRecDepth 100000 in
theorem yck_528 : yck (528, [yLC_528]) = true := by decide +kernel
set_option maxRecDepth 100000 in
theorem yck_591 : yck (591, [yLC_591]) = true := by decide +kernel
set_option maxRecDepth 100000 in
theorem yck_614 : yck (614, [yLC_614]) = true := by decide +kernel
set_option maxRecDepth 100000 in
theorem yck_637 : yck (637, [yLC_637]) = true := by decide +kernel
set_option maxRecDepth 100000 in
theorem yck_660 : yck (660, [yLC_660]) = true := by decide +kernel
set_option maxRecDepth 100000 in
theorem yck_683 : yck (683, [yLC_683]) = true := by decide +kernel
set_option maxRecDepth 100000 in
theorem yck_706 : yck (706, [yLC_706]) = true := by decide +kernel
set_option maxRecDepth 100000 in
theorem yck_739 : yck (739, [yLC_739]) = true := by decide +kernel
set_option maxRecDepth 100000 in
theorem yck_772 : yck (772, [yLC_772]) = true := by decide +kernel
