/-! ===== the reference: log, arm, whole, target, finishBy, bestWay, heatIn ===== -/
variable {g P H X G f : Nat → Int32} {h : Int64} {Q : AQ} {T : Nat} {s : Sg}
def armV (u : Nat → Int32) (j : Nat) : Int32 := if j < 5 then u (16 + j) else u 6 % u 1
def armA (w : Int32) (s : Sg) : Int32 × Int32 := if inI w 0 5 = true then (0, armV s.1 w.toNatClampNeg) else (1, 0)
theorem inI_nat {w : Int32} {c : Nat} {hi : Int32} (hh : hi.toInt = c) (h : inI w 0 hi = true) : w = nI w.toNatClampNeg ∧ w.toNatClampNeg ≤ c := by
  have h2 := inI_iff.mp h
  have e0 : ((0 : Int32).toInt) = 0 := by decide
  have hwn : w.toNatClampNeg = w.toInt.toNat := rfl
  exact ⟨of_clamp (by omega), by omega⟩
