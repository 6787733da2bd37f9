set_option maxRecDepth 100000 in
theorem bkH8 : bkPc 66 6 = true := by decide +kernel
