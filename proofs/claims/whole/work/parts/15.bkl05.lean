set_option maxRecDepth 100000 in
theorem bkH5 : bkPc 44 8 = true := by decide +kernel
