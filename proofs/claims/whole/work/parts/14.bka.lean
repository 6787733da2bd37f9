set_option maxRecDepth 100000 in
theorem bkA : (List.range' 0 40).all bkOk = true := by decide +kernel
