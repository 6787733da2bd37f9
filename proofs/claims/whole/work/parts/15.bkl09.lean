set_option maxRecDepth 100000 in
theorem bkH9 : bkPc 72 6 = true := by decide +kernel
