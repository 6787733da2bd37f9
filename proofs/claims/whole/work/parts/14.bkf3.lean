set_option maxRecDepth 100000 in
theorem bkF3 : (List.range' 264 16).all bkOk = true := by decide +kernel
