/-! ===== the reference: set, request ===== -/
variable {g P H X G f : Nat → Int32} {h : Int64} {Q : AQ} {T : Nat}
def setFit (w v : Int32) : Bool := if w = 0 then inI v 0 3 else if w = 1 then inI v 0 20 else if w = 2 then inI v 5 200 else if w = 3 then inI v 0 100 else false
def setA (sv : Bool) (w v : Int32) (a : Kp) : Int32 × Int32 × Kp := if setFit w v = true then (0, a.1.1 (2 + w.toNatClampNeg), ((upd a.1.1 (2 + w.toNatClampNeg) v, a.1.2), keepK sv a)) else (1, 0, a)
theorem setFit_w {w v : Int32} (h : setFit w v = true) : ∃ j : Nat, j < 4 ∧ w = nI j ∧ w.toNatClampNeg = j := by
  unfold setFit at h
  by_cases h0 : w = 0
  · exact ⟨0, by decide, h0, by rw [h0]; rfl⟩
  · rw [if_neg h0] at h
    by_cases h1 : w = 1
    · exact ⟨1, by decide, h1, by rw [h1]; rfl⟩
    · rw [if_neg h1] at h
      by_cases h2 : w = 2
      · exact ⟨2, by decide, h2, by rw [h2]; rfl⟩
      · rw [if_neg h2] at h
        by_cases h3 : w = 3
        · exact ⟨3, by decide, h3, by rw [h3]; rfl⟩
        · rw [if_neg h3] at h
          cases h
def reqFit (u : Nat → Int32) (tr se de : Int32) : Bool := inI tr 0 (u 0 - 1) && (inI se 0 (u 1 - 1) && inI de 0 9999)
def addS (s : Sg) (tr se de : Int32) : Sg := (upd s.1 7 (s.1 7 + 1), s.2.1 ++ [(s.1 7, tr, se, de, s.1 6)], s.2.2)
def requestA (sv : Bool) (tr se de : Int32) (a : Kp) : Int32 × Int32 × Kp := if reqFit a.1.1 tr se de = true then (if a.1.2.1.length = 12 then (2, 0, a) else (0, a.1.1 7, (addS a.1 tr se de, keepK sv a))) else (1, 0, a)
