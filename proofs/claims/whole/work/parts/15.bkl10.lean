set_option maxRecDepth 100000 in
theorem bkH10 : bkPc 78 4 = true := by decide +kernel
