set_option maxRecDepth 100000 in
theorem bkD : (List.range' 140 40).all bkOk = true := by decide +kernel
