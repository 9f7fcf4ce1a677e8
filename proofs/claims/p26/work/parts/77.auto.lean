/-! ===== the scan byte by byte keeps to the grammar ===== -/
variable {n : Nat} {b B : Nat → Int32} {len : Int32} {c : Scn}
theorem i32_0 : ((0 : Int32).toInt) = 0 := by decide
theorem nI_c {k : Nat} (hk : k ≤ 150) : (nI k).toNatClampNeg = k := nI_clamp (by omega)
