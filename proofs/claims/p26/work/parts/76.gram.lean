/-! ===== the grammar of command texts ===== -/
variable {n : Nat} {b B : Nat → Int32} {len : Int32} {c : Scn}
/-! the two words are one -/
def TB (len : Int32) (B b : Nat → Int32) (n : Nat) : Prop := len = nI n ∧ n ≤ 150 ∧ ∀ k, k < n → B k = b k
