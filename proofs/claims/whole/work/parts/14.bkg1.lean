set_option maxRecDepth 100000 in
theorem bkG1 : (List.range' 280 18).all bkOk = true := by decide +kernel
