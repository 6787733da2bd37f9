set_option maxRecDepth 100000 in
theorem bkH2 : bkPc 14 12 = true := by decide +kernel
