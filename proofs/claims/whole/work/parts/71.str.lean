/-! ===== the words' strings ===== -/
variable {Q : AQ} {M : AM}
def SixW (u : UInt32) : Prop := u = 6 ∨ u = 7 ∨ u = 8 ∨ u = 9 ∨ u = 10 ∨ u = 11
set_option maxRecDepth 20000 in
theorem x_coder {u : UInt32} (hu : SixW u) (hQ : Q (.inl (some (.int 0))) M) : Tr tJ0_coder_7d493 0 0 [.float u] M Q := by
  rcases hu with rfl | rfl | rfl | rfl | rfl | rfl <;>
  · refine Tr.run sJ0_coder_7d493 (by decide +kernel) rfl 30 fun X => ?_
    exact And.intro (fun z => absurd z (by decide)) (fun _ => ⟨rfl, hQ⟩)
def strN (u : UInt32) : Nat := [0, 5, 4, 6, 3, 5].getD (u.toNat - 6) 0
set_option maxRecDepth 20000 in
theorem x_latin {u : UInt32} (hu : SixW u) (hQ : Q (.inl (some (.int 1))) M) : Tr tJ0_isLatin1_aae02 0 0 [.float u] M Q := by
  rcases hu with rfl | rfl | rfl | rfl | rfl | rfl <;>
  · refine Tr.run sJ0_isLatin1_aae02 (by decide +kernel) rfl 30 fun X => ?_
    exact And.intro (fun z => absurd z (by decide)) (fun _ => And.intro (fun z => absurd rfl z) (fun _ => ⟨rfl, hQ⟩))
set_option maxRecDepth 20000 in
theorem x_length {u : UInt32} (hu : SixW u) (hQ : Q (.inl (some (.int (nI (strN u))))) M) : Tr tJ0_length_8abf5 0 0 [.float u] M Q := by
  rcases hu with rfl | rfl | rfl | rfl | rfl | rfl <;>
  · refine Tr.run sJ0_length_8abf5 (by decide +kernel) rfl 30 fun X => ?_
    refine x_coder (by simp [SixW]) ?_
    exact hQ
set_option maxRecDepth 20000 in
theorem x_check {i n : Int32} {v : Value} (hv : v = .null ∨ v = .float 22) (h0 : ¬ i < 0) (h1 : i < n) (hQ : Q (.inl (some (.int i))) M) : Tr tJ3_checkIndex_8e157 0 0 [.int i, .int n, v] M Q := by
  rcases hv with rfl | rfl <;>
  · refine Tr.run sJ3_checkIndex_8e157 (by decide +kernel) rfl 30 fun X => ?_
    exact And.intro (fun z => absurd z h0) (fun _ => And.intro (fun _ => hQ) (fun z => absurd h1 z))
set_option maxRecDepth 20000 in
theorem x_check0 {i n : Int32} (h0 : ¬ i < 0) (h1 : i < n) (hQ : Q (.inl none) M) : Tr tJ0_checkIndex_df160 0 0 [.int i, .int n] M Q := by
  refine Tr.run sJ0_checkIndex_df160 (by decide +kernel) rfl 30 fun X => ?_
  refine ⟨?_, ?_⟩
  · refine x_check (Or.inl rfl) h0 h1 ?_
    exact hQ
  · refine x_check (Or.inr rfl) h0 h1 ?_
    exact hQ
def strC (u : UInt32) (k : Nat) : Int32 := (strBytes.getD (u.toNat - 6) []).getD k 0
theorem six_k {u : UInt32} {k : Nat} (hu : SixW u) (hk : k < strN u) : (u = 7 ∧ (k = 0 ∨ k = 1 ∨ k = 2 ∨ k = 3 ∨ k = 4)) ∨ (u = 8 ∧ (k = 0 ∨ k = 1 ∨ k = 2 ∨ k = 3)) ∨ (u = 9 ∧ (k = 0 ∨ k = 1 ∨ k = 2 ∨ k = 3 ∨ k = 4 ∨ k = 5)) ∨ (u = 10 ∧ (k = 0 ∨ k = 1 ∨ k = 2)) ∨ (u = 11 ∧ (k = 0 ∨ k = 1 ∨ k = 2 ∨ k = 3 ∨ k = 4)) := by
  rcases hu with rfl | rfl | rfl | rfl | rfl | rfl
  · exact absurd (show k < 0 from hk) (Nat.not_lt_zero _)
  · have : k < 5 := hk
    exact Or.inl ⟨rfl, by omega⟩
  · have : k < 4 := hk
    exact Or.inr (Or.inl ⟨rfl, by omega⟩)
  · have : k < 6 := hk
    exact Or.inr (Or.inr (Or.inl ⟨rfl, by omega⟩))
  · have : k < 3 := hk
    exact Or.inr (Or.inr (Or.inr (Or.inl ⟨rfl, by omega⟩)))
  · have : k < 5 := hk
    exact Or.inr (Or.inr (Or.inr (Or.inr ⟨rfl, by omega⟩)))
set_option maxRecDepth 20000 in
theorem x_char1 {u w : UInt32} {k : Nat} (hu : SixW u) (hk : k < strN u) (hw : w = u + 6) (hQ : Q (.inl (some (.int (strC u k)))) M) : Tr tJ1_charAt_3b067 0 0 [.float w, .int (nI k)] M Q := by
  subst hw
  rcases six_k hu hk with ⟨rfl, h⟩ | ⟨rfl, h⟩ | ⟨rfl, h⟩ | ⟨rfl, h⟩ | ⟨rfl, h⟩ <;>
  · refine Tr.run sJ1_charAt_3b067 (by decide +kernel) rfl 30 fun X => ?_
    refine x_check0 (nI_pos (by omega)) (nI_lt hk (by decide)) ?_
    rcases h with rfl | rfl | rfl | h <;> first
      | exact ⟨in_lit (by decide), by decide, hQ⟩
      | (rcases h with rfl | h <;> first
          | exact ⟨in_lit (by decide), by decide, hQ⟩
          | (rcases h with rfl | rfl <;> exact ⟨in_lit (by decide), by decide, hQ⟩)
          | (subst h; exact ⟨in_lit (by decide), by decide, hQ⟩))
      | (subst h; exact ⟨in_lit (by decide), by decide, hQ⟩)
