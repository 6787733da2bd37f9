set_option maxRecDepth 100000 in
theorem bkH11 : bkPc 82 4 = true := by decide +kernel
