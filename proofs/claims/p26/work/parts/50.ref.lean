/-! ===== the reference: rows, targets ===== -/
variable {g P H X G f : Nat → Int32} {h : Int64} {Q : AQ}
def sizeI (v : Int32) : Int32 := if 0 ≤ v then v else -v
def bI (b : Bool) : Int32 := if b then 1 else 0
