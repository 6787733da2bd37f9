set_option maxRecDepth 100000 in
theorem bkF1 : (List.range' 230 17).all bkOk = true := by decide +kernel
