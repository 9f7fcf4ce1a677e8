/-! ===== State: targets, reading, giving up ===== -/
variable {u : Nat → Int32} {n : Int32} {S : Nat → Int32} {R : Nat → Nat → Int32} {L : Nat → Int32} {Q : AQ}
theorem ix_ne {k : Nat} (h : k < 2 ^ 31) : ¬ ix (some k) = -1 := by
  show ¬ nI k = -1
  intro z
  have z2 := congrArg Int32.toInt z
  rw [nI_toInt h] at z2
  have : ((-1 : Int32).toInt) = -1 := by decide
  omega
set_option maxRecDepth 20000 in
theorem c_under (h1 : ¬ u 1 = 0) (hQ : Q (.inl (some (.int (u 6 % u 1)))) (stA 0 u n S R L)) : Tr tX6_sectorUnderArm 0 0 [.ref 0] (stA 0 u n S R L) Q := by
  refine Tr.run sX6_sectorUnderArm (by decide +kernel) rfl 60 fun X => ?_
  exact And.intro (fun _ => ⟨h1, hQ⟩) (fun h => absurd h h1)
