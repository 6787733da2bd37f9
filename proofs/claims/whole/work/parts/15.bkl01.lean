set_option maxRecDepth 100000 in
theorem bkH1 : bkPc 0 14 = true := by decide +kernel
