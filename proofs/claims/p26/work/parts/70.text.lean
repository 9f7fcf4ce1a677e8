/-! ===== CommandText, the letters ===== -/
variable {Q : AQ}
def tcW (k : Nat) (len : Int32) (B : Nat → Int32) : AM := [.inr (2, [.int len, .ref (k + 1)]), .inl (1, 150, .inl B)]
