/-! ===== the reference: request, cancel, set, pass ===== -/
variable {g P H X G f : Nat → Int32} {h : Int64} {Q : AQ} {T : Nat}
def dropAt (rs : List Rq) (k : Nat) : List Rq := rs.take k ++ rs.drop (k + 1)
def cancelA (sv : Bool) (x : Int32) (a : Kp) : Int32 × Int32 × Kp := match fndL x a.1.2.1 with
  | none => (1, 0, a)
  | some k => (0, a.1.1 6 - (a.1.2.1.getD k d0).2.2.2.2, ((a.1.1, dropAt a.1.2.1 k, a.1.2.2), keepK sv a))
def passA (sv : Bool) (t : Int32) (a : Kp) : Int32 × Int32 × Kp :=
  if inI t 1 99 = true then (if a.1.1 6 + t ≤ 9999 then (0, (passS t.toNatClampNeg a.1).1 8 - a.1.1 8, (passS t.toNatClampNeg a.1, keepK sv a)) else (2, 0, a)) else (1, 0, a)
theorem inI_iff {v lo hi : Int32} : inI v lo hi = true ↔ lo.toInt ≤ v.toInt ∧ v.toInt ≤ hi.toInt := by
  unfold inI
  rw [Bool.and_eq_true, decide_eq_true_iff, decide_eq_true_iff, Int32.le_iff_toInt_le, Int32.le_iff_toInt_le]
theorem of_clamp {v : Int32} (h : 0 ≤ v.toInt) : v = nI v.toNatClampNeg := by
  rw [← Int32.toInt_inj]
  have h2 := Int32.toInt_lt v
  have e : v.toNatClampNeg = v.toInt.toNat := rfl
  rw [nI_toInt (by omega)]
  omega
