/-! ===== the reference: the calls that change ===== -/
variable {g P H X G f : Nat → Int32} {h : Int64} {Q : AQ} {T : Nat}
abbrev Kp : Type := Sg × List Sg
def keepK (sv : Bool) (a : Kp) : List Sg := if sv = true then pushS a.2 a.1 else a.2
def inI (v lo hi : Int32) : Bool := decide (lo ≤ v) && decide (v ≤ hi)
theorem inI_t {v lo hi : Int32} (h1 : lo ≤ v) (h2 : v ≤ hi) : inI v lo hi = true := by unfold inI; rw [decide_eq_true h1, decide_eq_true h2]; rfl
theorem inI_l {v lo hi : Int32} (h1 : ¬ lo ≤ v) : inI v lo hi = false := by unfold inI; rw [decide_eq_false h1]; rfl
theorem inI_h {v lo hi : Int32} (h1 : ¬ v ≤ hi) : inI v lo hi = false := by unfold inI; rw [decide_eq_false h1]; exact Bool.and_false _
def plateFit (t c : Int32) : Bool := inI t 4 24 && inI c 3 12
def plateA (sv : Bool) (t c : Int32) (a : Kp) : Int32 × Int32 × Kp := if plateFit t c = true then (0, nI a.1.2.1.length, (putS a.1 t c, keepK sv a)) else (1, 0, a)
