set_option maxRecDepth 100000 in
theorem xck_3 : xgood (xcs 317) = true := by decide +kernel
