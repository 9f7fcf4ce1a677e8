/-! ===== CommandScan: faultOf; the carrying out ===== -/
variable {n : Nat} {b B : Nat → Int32} {len : Int32} {c : Scn} {Q : AQ}
def SC (c : Scn) : Prop := Wd6 c.1 ∧ ∃ k : Nat, k ≤ 3 ∧ c.2.2.2.1 = nI k
def SI (p : Nat) (c : Scn) : Prop := SC c ∧ ∃ w : Nat, c.2.1 = 1 → (c.2.2.1 = nI w ∧ w ≤ p)
theorem SI.mono {p : Nat} (h : SI p c) : SI (p + 1) c := by
  obtain ⟨h1, w, h2⟩ := h
  exact ⟨h1, w, fun z => ⟨(h2 z).1, Nat.le_succ_of_le (h2 z).2⟩⟩
