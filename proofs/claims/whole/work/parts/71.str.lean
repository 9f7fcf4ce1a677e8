/-! ===== the words' strings ===== -/
variable {Q : AQ} {M : AM}
def SixW (u : UInt32) : Prop := u = 6 ∨ u = 7 ∨ u = 8 ∨ u = 9 ∨ u = 10 ∨ u = 11
set_option maxRecDepth 20000 in
theorem x_coder {u : UInt32} (hu : SixW u) (hQ : Q (.inl (some (.int 0))) M) : Tr tJ0_coder_7d493 0 0 [.float u] M Q := by
  rcases hu with rfl | rfl | rfl | rfl | rfl | rfl <;>
  · refine Tr.run sJ0_coder_7d493 (by decide +kernel) rfl 30 fun X => ?_
    exact And.intro (fun z => absurd z (by decide)) (fun _ => ⟨rfl, hQ⟩)
