set_option maxRecDepth 100000 in
theorem bkF2 : (List.range' 247 17).all bkOk = true := by decide +kernel
