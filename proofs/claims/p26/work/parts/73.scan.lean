/-! ===== CommandScan: its world, the easy steps ===== -/
variable {Q : AQ}
abbrev Scn : Type := UInt32 × Int32 × Int32 × Int32 × Int32 × (Nat → Int32)
def scW (k : Nat) (c : Scn) : AM := [.inr (1, [.float c.1, .ref (k + 1), .int c.2.1, .int c.2.2.1, .int c.2.2.2.1, .int c.2.2.2.2.1]), .inl (0, 3, .inl c.2.2.2.2.2)]
def Wd6 (u : UInt32) : Prop := u = 0 ∨ u = 1 ∨ u = 2 ∨ u = 3 ∨ u = 4 ∨ u = 5
