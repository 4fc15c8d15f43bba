/-! the law's cuts, checked -/
set_option maxRecDepth 100000 in
theorem yck_528 : yck (528, [yLC_528]) = true := by decide +kernel
set_option maxRecDepth 100000 in
theorem yck_558 : yck (558, [yLC_558]) = true := by decide +kernel
set_option maxRecDepth 100000 in
theorem yck_591 : yck (591, [yLC_591]) = true := by decide +kernel
set_option maxRecDepth 100000 in
theorem yck_601 : yck (601, [yLC_601]) = true := by decide +kernel
set_option maxRecDepth 100000 in
theorem yck_614 : yck (614, [yLC_614]) = true := by decide +kernel
set_option maxRecDepth 100000 in
theorem yck_624 : yck (624, [yLC_624]) = true := by decide +kernel
set_option maxRecDepth 100000 in
theorem yck_637 : yck (637, [yLC_637]) = true := by decide +kernel
set_option maxRecDepth 100000 in
theorem yck_647 : yck (647, [yLC_647]) = true := by decide +kernel
set_option maxRecDepth 100000 in
theorem yck_660 : yck (660, [yLC_660]) = true := by decide +kernel
set_option maxRecDepth 100000 in
theorem yck_670 : yck (670, [yLC_670]) = true := by decide +kernel
set_option maxRecDepth 100000 in
theorem yck_683 : yck (683, [yLC_683]) = true := by decide +kernel
set_option maxRecDepth 100000 in
theorem yck_693 : yck (693, [yLC_693]) = true := by decide +kernel
set_option maxRecDepth 100000 in
theorem yck_706 : yck (706, [yLC_706]) = true := by decide +kernel
set_option maxRecDepth 100000 in
theorem yck_721 : yck (721, [yLC_721]) = true := by decide +kernel
set_option maxRecDepth 100000 in
theorem yck_739 : yck (739, [yLC_739]) = true := by decide +kernel
set_option maxRecDepth 100000 in
theorem yck_754 : yck (754, [yLC_754]) = true := by decide +kernel
set_option maxRecDepth 100000 in
theorem yck_772 : yck (772, [yLC_772]) = true := by decide +kernel
set_option maxRecDepth 100000 in
theorem yck_782 : yck (782, [yLC_782]) = true := by decide +kernel
set_option maxRecDepth 100000 in
theorem yck_795 : yck (795, [yLC_795]) = true := by decide +kernel
set_option maxRecDepth 100000 in
theorem yck_810 : yck (810, [yLC_810]) = true := by decide +kernel
set_option maxRecDepth 100000 in
theorem yck_828 : yck (828, [yLC_828]) = true := by decide +kernel
set_option maxRecDepth 100000 in
theorem yck_843 : yck (843, [yLC_843]) = true := by decide +kernel
set_option maxRecDepth 100000 in
theorem yck_861 : yck (861, [yLC_861]) = true := by decide +kernel
set_option maxRecDepth 100000 in
theorem yck_886 : yck (886, [yLC_886]) = true := by decide +kernel
set_option maxRecDepth 100000 in
theorem yck_914 : yck (914, [yLC_914]) = true := by decide +kernel
set_option maxRecDepth 100000 in
theorem yck_939 : yck (939, [yLC_939]) = true := by decide +kernel
set_option maxRecDepth 100000 in
theorem yck_967 : yck (967, [yLC_967]) = true := by decide +kernel
