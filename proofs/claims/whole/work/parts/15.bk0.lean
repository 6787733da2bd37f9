/-- the law's own code, by pieces -/
def bkPc (a n : Nat) : Bool := (((mBk.getD 334 []).drop a).take n).all (fun q => chkOps (mC 334) (mK 334) (decide ((mY 334).name = "<init>")) (mR 334) q.1 q.2)
