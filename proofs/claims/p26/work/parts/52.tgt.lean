/-! ===== the reference's target is the class's ===== -/
def RS (g : Nat → Int32) (s : Sg) : Prop := (∀ k, k < 21 → g k = s.1 k) ∧ g 21 = nI s.2.1.length ∧ g 22 = nI s.2.2.length ∧ (∀ (k : Nat) (r : Rq), s.2.1[k]? = some r → ∀ j, j < 5 → g (23 + 5 * k + j) = rf r j) ∧ (∀ (b : Nat) (e : Rq), s.2.2[b]? = some e → ∀ j, j < 5 → g (83 + 5 * b + j) = rf e j)
theorem le0 {a : Int32} : 0 ≤ a ↔ 0 ≤ a.toInt := by rw [Int32.le_iff_toInt_le]; exact Iff.rfl
variable {g : Nat → Int32} {s : Sg} {T : Nat}
