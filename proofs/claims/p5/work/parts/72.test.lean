/-! a trial of the certificates -/
noncomputable def ych (i : Nat) : Bool := achI xh2 ytyt ytyp (gHK yfam) (gHS yfam yfids ytAT yAT) (gHA yfam yAT) (gHH yfam yAT yfids) (gHW yfam ytyt ytAT yAT) xcode xmeth (xel 0) xeb yinl yfl yspl ycand yINS 6000 i
set_option maxRecDepth 100000 in
theorem ych_159 : ych 159 = true := by decide +kernel
set_option maxRecDepth 100000 in
theorem ych_186 : ych 186 = true := by decide +kernel
set_option maxRecDepth 100000 in
theorem ych_194 : ych 194 = true := by decide +kernel
set_option maxRecDepth 100000 in
theorem ych_195 : ych 195 = true := by decide +kernel
set_option maxRecDepth 100000 in
theorem ych_196 : ych 196 = true := by decide +kernel
set_option maxRecDepth 100000 in
theorem ych_138 : ych 138 = true := by decide +kernel
