set_option maxRecDepth 100000 in
theorem bkH6 : bkPc 52 7 = true := by decide +kernel
