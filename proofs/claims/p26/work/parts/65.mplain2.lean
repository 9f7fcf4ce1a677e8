/-! ===== the reference: whole, logged, widest ===== -/
variable {g P H X G f : Nat → Int32} {h : Int64} {Q : AQ} {T : Nat} {s : Sg}
def wholeV (s : Sg) (ty : Int32) (j : Nat) : Int32 := if j < 7 then s.1 j else if j = 7 then nI s.2.1.length else if j = 17 then ty else s.1 (j - 1)
def wholeA (w ty : Int32) (s : Sg) : Int32 × Int32 := if inI w 0 17 = true then (0, wholeV s ty w.toNatClampNeg) else (1, 0)
def logV (s : Sg) (b : Int32) (j : Nat) : Int32 := if b < nI s.2.2.length then rf (s.2.2.getD b.toNatClampNeg d0) j else -1
def loggedA (b w : Int32) (s : Sg) : Int32 × Int32 := if b < 0 then (1, 0) else if inI w 0 4 = true then (0, logV s b w.toNatClampNeg) else (1, 0)
