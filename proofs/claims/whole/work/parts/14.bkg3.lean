set_option maxRecDepth 100000 in
theorem bkG3 : (List.range' 316 18).all bkOk = true := by decide +kernel
