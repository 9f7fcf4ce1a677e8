/-! ===== the reference: runs of ticks, holding and letting go, saving ===== -/
variable {g P H X G f : Nat → Int32} {h : Int64} {Q : AQ} {T : Nat} {s : Sg}
def RB (s : Sg) : Prop := s.2.1.length ≤ 12 ∧ s.2.2.length ≤ 10
theorem Inv.rb (h : Inv T s) : RB s := by
  obtain ⟨w, t, -, -, -, -, e⟩ := h.2.2.2.2
  exact ⟨h.2.1, by omega⟩
def pushS (ps : List Sg) (s : Sg) : List Sg := if ps.length = 4 then ps.drop 1 ++ [s] else ps ++ [s]
theorem pushS_len {ps : List Sg} (h : ps.length ≤ 4) : (pushS ps s).length = min (ps.length + 1) 4 := by
  unfold pushS
  split
  · rw [List.length_append, List.length_drop, List.length_singleton]; omega
  · rw [List.length_append, List.length_singleton]; omega
