set_option maxRecDepth 100000 in
theorem bkE : (List.range' 180 50).all bkOk = true := by decide +kernel
