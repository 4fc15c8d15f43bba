/-! the law's cuts, checked -/
set_option maxRecDepth 100000 in
theorem yck_795 : yck (795, [yLC_795]) = true := by decide +kernel
set_option maxRecDepth 100000 in
theorem yck_828 : yck (828, [yLC_828]) = true := by decide +kernel
set_option maxRecDepth 100000 in
theorem yck_861 : yck (861, [yLC_861]) = true := by decide +kernel
set_option maxRecDepth 100000 in
theorem yck_914 : yck (914, [yLC_914]) = true := by decide +kernel
set_option maxRecDepth 100000 in
theorem yck_967 : yck (967, [yLC_967]) = true := by decide +kernel
