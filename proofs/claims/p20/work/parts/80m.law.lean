/-! the law's cuts, checked -/
set_option maxRecDepth 100000 in
theorem yck_18 : yck (18, [yLC_18]) = true := by decide +kernel
set_option maxRecDepth 100000 in
theorem yck_276 : yck (276, [yLC_276]) = true := by decide +kernel
set_option maxRecDepth 100000 in
theorem yck_281 : yck (281, [yLC_281]) = true := by decide +kernel
set_option maxRecDepth 100000 in
theorem yck_289 : yck (289, [yLC_289]) = true := by decide +kernel
set_option maxRecDepth 100000 in
theorem yck_294 : yck (294, [yLC_294]) = true := by decide +kernel
set_option maxRecDepth 100000 in
theorem yck_302 : yck (302, [yLC_302]) = true := by decide +kernel
set_option maxRecDepth 100000 in
theorem yck_307 : yck (307, [yLC_307]) = true := by decide +kernel
set_option maxRecDepth 100000 in
theorem yck_315 : yck (315, [yLC_315]) = true := by decide +kernel
set_option maxRecDepth 100000 in
theorem yck_335 : yck (335, [yLC_335]) = true := by decide +kernel
set_option maxRecDepth 100000 in
theorem yck_358 : yck (358, [yLC_358]) = true := by decide +kernel
set_option maxRecDepth 100000 in
theorem yck_393 : yck (393, [yLC_393]) = true := by decide +kernel
set_option maxRecDepth 100000 in
theorem yck_431 : yck (431, [yLC_431]) = true := by decide +kernel
set_option maxRecDepth 100000 in
theorem yck_446 : yck (446, [yLC_446]) = true := by decide +kernel
set_option maxRecDepth 100000 in
theorem yck_464 : yck (464, [yLC_464]) = true := by decide +kernel
set_option maxRecDepth 100000 in
theorem yck_494 : yck (494, [yLC_494]) = true := by decide +kernel
set_option maxRecDepth 100000 in
theorem yck_527 : yck (527, [yLC_527]) = true := by decide +kernel
set_option maxRecDepth 100000 in
theorem yck_590 : yck (590, [yLC_590]) = true := by decide +kernel
set_option maxRecDepth 100000 in
theorem yck_613 : yck (613, [yLC_613]) = true := by decide +kernel
set_option maxRecDepth 100000 in
theorem yck_636 : yck (636, [yLC_636]) = true := by decide +kernel
set_option maxRecDepth 100000 in
theorem yck_646 : yck (646, [yLC_646]) = true := by decide +kernel
set_option maxRecDepth 100000 in
theorem yck_659 : yck (659, [yLC_659]) = true := by decide +kernel
set_option maxRecDepth 100000 in
theorem yck_669 : yck (669, [yLC_669]) = true := by decide +kernel
set_option maxRecDepth 100000 in
theorem yck_682 : yck (682, [yLC_682]) = true := by decide +kernel
set_option maxRecDepth 100000 in
theorem yck_692 : yck (692, [yLC_692]) = true := by decide +kernel
set_option maxRecDepth 100000 in
theorem yck_705 : yck (705, [yLC_705]) = true := by decide +kernel
set_option maxRecDepth 100000 in
theorem yck_720 : yck (720, [yLC_720]) = true := by decide +kernel
set_option maxRecDepth 100000 in
theorem yck_738 : yck (738, [yLC_738]) = true := by decide +kernel
set_option maxRecDepth 100000 in
theorem yck_753 : yck (753, [yLC_753]) = true := by decide +kernel
set_option maxRecDepth 100000 in
theorem yck_771 : yck (771, [yLC_771]) = true := by decide +kernel
set_option maxRecDepth 100000 in
theorem yck_781 : yck (781, [yLC_781]) = true := by decide +kernel
set_option maxRecDepth 100000 in
theorem yck_794 : yck (794, [yLC_794]) = true := by decide +kernel
set_option maxRecDepth 100000 in
theorem yck_809 : yck (809, [yLC_809]) = true := by decide +kernel
set_option maxRecDepth 100000 in
theorem yck_827 : yck (827, [yLC_827]) = true := by decide +kernel
set_option maxRecDepth 100000 in
theorem yck_842 : yck (842, [yLC_842]) = true := by decide +kernel
set_option maxRecDepth 100000 in
theorem yck_860 : yck (860, [yLC_860]) = true := by decide +kernel
set_option maxRecDepth 100000 in
theorem yck_913 : yck (913, [yLC_913]) = true := by decide +kernel
set_option maxRecDepth 100000 in
theorem yck_938 : yck (938, [yLC_938]) = true := by decide +kernel
set_option maxRecDepth 100000 in
theorem yck_966 : yck (966, [yLC_966]) = true := by decide +kernel
set_option maxRecDepth 100000 in
theorem yck_991 : yck (991, [yLC_991]) = true := by decide +kernel
