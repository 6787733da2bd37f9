set_option maxRecDepth 100000 in
theorem bkH7 : bkPc 59 7 = true := by decide +kernel
