/-- the law's own code, by pieces -/
def bkPc (a n : Nat) : Bool := (((mBk.getD 334 []).drop a).take n).all (fun q => chkOps (mC 334) (mK 334) (decide ((mY 334).name = "<init>")) (mR 334) q.1 q.2)
set_option maxRecDepth 100000 in
theorem bkH1 : bkPc 0 60 = true := by decide +kernel
set_option maxRecDepth 100000 in
theorem bkH2 : bkPc 60 60 = true := by decide +kernel
set_option maxRecDepth 100000 in
theorem bkH3 : bkPc 120 60 = true := by decide +kernel
set_option maxRecDepth 100000 in
theorem bkH4 : bkPc 180 400 = true := by decide +kernel
