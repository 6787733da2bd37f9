set_option maxRecDepth 100000 in
theorem bkH4 : bkPc 36 8 = true := by decide +kernel
