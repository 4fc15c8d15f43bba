/-! the law's cuts, checked -/
set_option maxRecDepth 100000 in
theorem yck_18 : yck (18, [yLC_18]) = true := by decide +kernel
set_option maxRecDepth 100000 in
theorem yck_276 : yck (276, [yLC_276]) = true := by decide +kernel
set_option maxRecDepth 100000 in
theorem yck_281 : yck (281, [yLC_281]) = true := by decide +kernel
set_option maxRecDepth 100000 in
theorem yck_289 : yck (289, [yLC_289]) = true := by decide +kernel
set_option maxRecDepth 100000 in
theorem yck_294 : yck (294, [yLC_294]) = true := by decide +kernel
set_option maxRecDepth 100000 in
theorem yck_302 : yck (302, [yLC_302]) = true := by decide +kernel
set_option maxRecDepth 100000 in
theorem yck_307 : yck (307, [yLC_307]) = true := by decide +kernel
set_option maxRecDepth 100000 in
theorem yck_315 : yck (315, [yLC_315]) = true := by decide +kernel
set_option maxRecDepth 100000 in
theorem yck_358 : yck (358, [yLC_358]) = true := by decide +kernel
