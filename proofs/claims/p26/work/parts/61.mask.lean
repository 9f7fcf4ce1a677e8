/-! ===== the reference: finish and the plain questions ===== -/
variable {g P H X G f : Nat → Int32} {h : Int64} {Q : AQ} {T : Nat}
def finishA (sv : Bool) (a : Kp) : Int32 × Int32 × Kp := if (runS 500 a.1).2.1 6 ≤ 9999 then (0, nI (runS 500 a.1).1, ((runS 500 a.1).2, keepK sv a)) else (1, 0, a)
variable {s : Sg}
def toldV (u : Nat → Int32) (r : Rq) (j : Nat) : Int32 := if j < 4 then rf r (j + 1) else if j = 4 then sizeI (r.2.1 - u 16) else z01 (r.2.2.2.1 < u 6)
def requestOfA (x w : Int32) (s : Sg) : Int32 × Int32 := match fndL x s.2.1 with
  | none => (1, 0)
  | some k => if inI w 0 5 = true then (0, toldV s.1 (s.2.1.getD k d0) w.toNatClampNeg) else (2, 0)
def requestAtA (p : Int32) (s : Sg) : Int32 × Int32 := if p < 0 then (1, 0) else (0, if p < nI s.2.1.length then (s.2.1.getD p.toNatClampNeg d0).1 else -1)
