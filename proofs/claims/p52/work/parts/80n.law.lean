/-! the law's cuts, checked -/
set_option maxRecDepth 100000 in
theorem yck_527 : yck (527, [yLC_527]) = true := by decide +kernel
set_option maxRecDepth 100000 in
theorem yck_557 : yck (557, [yLC_557]) = true := by decide +kernel
set_option maxRecDepth 100000 in
theorem yck_590 : yck (590, [yLC_590]) = true := by decide +kernel
set_option maxRecDepth 100000 in
theorem yck_600 : yck (600, [yLC_600]) = true := by decide +kernel
set_option maxRecDepth 100000 in
theorem yck_613 : yck (613, [yLC_613]) = true := by decide +kernel
set_option maxRecDepth 100000 in
theorem yck_623 : yck (623, [yLC_623]) = true := by decide +kernel
set_option maxRecDepth 100000 in
theorem yck_636 : yck (636, [yLC_636]) = true := by decide +kernel
set_option maxRecDepth 100000 in
theorem yck_646 : yck (646, [yLC_646]) = true := by decide +kernel
set_option maxRecDepth 100000 in
theorem yck_659 : yck (659, [yLC_659]) = true := by decide +kernel
set_option maxRecDepth 100000 in
theorem yck_669 : yck (669, [yLC_669]) = true := by decide +kernel
set_option maxRecDepth 100000 in
theorem yck_682 : yck (682, [yLC_682]) = true := by decide +kernel
set_option maxRecDepth 100000 in
theorem yck_692 : yck (692, [yLC_692]) = true := by decide +kernel
set_option maxRecDepth 100000 in
theorem yck_705 : yck (705, [yLC_705]) = true := by decide +kernel
set_option maxRecDepth 100000 in
theorem yck_720 : yck (720, [yLC_720]) = true := by decide +kernel
set_option maxRecDepth 100000 in
theorem yck_738 : yck (738, [yLC_738]) = true := by decide +kernel
set_option maxRecDepth 100000 in
theorem yck_753 : yck (753, [yLC_753]) = true := by decide +kernel
set_option maxRecDepth 100000 in
theorem yck_771 : yck (771, [yLC_771]) = true := by decide +kernel
set_option maxRecDepth 100000 in
theorem yck_781 : yck (781, [yLC_781]) = true := by decide +kernel
set_option maxRecDepth 100000 in
theorem yck_794 : yck (794, [yLC_794]) = true := by decide +kernel
set_option maxRecDepth 100000 in
theorem yck_809 : yck (809, [yLC_809]) = true := by decide +kernel
set_option maxRecDepth 100000 in
theorem yck_827 : yck (827, [yLC_827]) = true := by decide +kernel
set_option maxRecDepth 100000 in
theorem yck_842 : yck (842, [yLC_842]) = true := by decide +kernel
set_option maxRecDepth 100000 in
theorem yck_860 : yck (860, [yLC_860]) = true := by decide +kernel
set_option maxRecDepth 100000 in
theorem yck_885 : yck (885, [yLC_885]) = true := by decide +kernel
set_option maxRecDepth 100000 in
theorem yck_913 : yck (913, [yLC_913]) = true := by decide +kernel
set_option maxRecDepth 100000 in
theorem yck_938 : yck (938, [yLC_938]) = true := by decide +kernel
set_option maxRecDepth 100000 in
theorem yck_966 : yck (966, [yLC_966]) = true := by decide +kernel
