/-! ===== the reference: a tick ===== -/
variable {g P H X G f : Nat → Int32} {h : Int64} {Q : AQ} {T : Nat} {s : Sg}
theorem upd_o {f : Nat → Int32} {i k : Nat} {x : Int32} (h : ¬ k = i) : upd f i x k = f k := if_neg h
theorem upd_i {f : Nat → Int32} {i : Nat} {x : Int32} : upd f i x i = x := if_pos rfl
