set_option maxRecDepth 100000 in
theorem bkG2 : (List.range' 298 18).all bkOk = true := by decide +kernel
