/-! ===== the reference: readIn ===== -/
variable {g P H X G f : Nat → Int32} {h : Int64} {Q : AQ} {T : Nat} {s : Sg}
theorem bgn_6 (s : Sg) : (bgnS s).1 6 = s.1 6 := by
  unfold bgnS bgnA
  split
  · split
    · exact rds_u _ (by decide) (by decide) _ _
    · split
      · rfl
      · exact rds_u _ (by decide) (by decide) _ _
  · exact moveU_k (by decide) (by decide) (by decide) (by decide) (by decide)
