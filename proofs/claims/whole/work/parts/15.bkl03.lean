set_option maxRecDepth 100000 in
theorem bkH3 : bkPc 26 10 = true := by decide +kernel
