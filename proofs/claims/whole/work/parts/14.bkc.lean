set_option maxRecDepth 100000 in
theorem bkC : (List.range' 90 50).all bkOk = true := by decide +kernel
