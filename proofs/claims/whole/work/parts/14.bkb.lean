set_option maxRecDepth 100000 in
theorem bkB : (List.range' 40 50).all bkOk = true := by decide +kernel
