/-! ===== CommandText, the letters ===== -/
variable {Q : AQ}
def tcW (k : Nat) (len : Int32) (B : Nat → Int32) : AM := [.inr (2, [.int len, .ref (k + 1)]), .inl (1, 150, .inl B)]
theorem nar_b {v : Int32} (h : 0 ≤ v.toInt ∧ v.toInt ≤ 127) : vp_nar .byte v.toInt8.toInt32 = v := by
  have e : v.toInt8.toInt32 = v := by
    apply Int32.toInt_inj.mp
    rw [Int8.toInt_toInt32, Int32.toInt_toInt8]
    exact Int.bmod_eq_of_le (by omega) (by omega)
  show v.toInt8.toInt32.toInt8.toInt32 = v
  rw [e, e]
set_option maxRecDepth 20000 in
theorem c_tfull {len : Int32} {B : Nat → Int32} (hQ : Q (.inl (some (.int (z01 (150 ≤ len))))) (tcW 0 len B)) : Tr tX3_isFull 0 0 [.ref 0] (tcW 0 len B) Q := by
  refine Tr.run sX3_isFull (by decide +kernel) rfl 30 fun X => ?_
  refine And.intro (fun h => ⟨rfl, ?_⟩) (fun h => ⟨rfl, ?_⟩)
  · rw [z01_f (Int32.not_le.mpr h)] at hQ; exact hQ
  · rw [z01_t (Int32.not_lt.mp h)] at hQ; exact hQ
set_option maxRecDepth 20000 in
theorem c_append {len v : Int32} {B : Nat → Int32} {n : Nat} (hl : len = nI n) (hn : n < 150) (hv : 0 ≤ v.toInt ∧ v.toInt ≤ 127) (hQ : Q (.inl (some (.int (len + 1)))) (tcW 0 (len + 1) (upd B n v))) : Tr tX3_append 0 0 [.ref 0, .int v] (tcW 0 len B) Q := by
  have v0 : vp_in len 150 := by rw [hl]; exact in_nI hn (by decide)
  have v1 : len.toNatClampNeg = n := by rw [hl]; exact nI_clamp (by omega)
  refine Tr.run sX3_append (by decide +kernel) rfl 40 fun X => ?_
  refine c_tfull ?_
  rw [z01_f (by rw [hl]; exact nI_ge (b := 150) hn (by decide))]
  refine And.intro (fun h => absurd rfl h) (fun _ => ⟨v0, ?_⟩)
  rw [← nar_b hv, ← v1] at hQ
  exact hQ
def byteV (len : Int32) (B : Nat → Int32) (at_ : Int32) : Int32 := if at_ < 0 then -1 else if at_ < len then B at_.toNatClampNeg else -1
set_option maxRecDepth 20000 in
theorem c_byteAt {len at_ : Int32} {B : Nat → Int32} (hl : len.toInt ≤ 150) (hQ : Q (.inl (some (.int (byteV len B at_)))) (tcW 0 len B)) : Tr tX3_byteAt 0 0 [.ref 0, .int at_] (tcW 0 len B) Q := by
  refine Tr.run sX3_byteAt (by decide +kernel) rfl 40 fun X => ?_
  unfold byteV at hQ
  refine And.intro (fun h => ?_) (fun h => And.intro (fun h2 => ?_) (fun h2 => ⟨?_, ?_⟩))
  · rw [if_pos h] at hQ; exact hQ
  · rw [if_neg h, if_neg (Int32.not_lt.mpr h2)] at hQ; exact hQ
  · have h2' := Int32.lt_iff_toInt_lt.mp (Int32.not_le.mp h2)
    have e : at_.toNatClampNeg = at_.toInt.toNat := rfl
    rintro (z | z)
    · exact h z
    · omega
  · rw [if_neg h, if_pos (Int32.not_le.mp h2)] at hQ; exact hQ
set_option maxRecDepth 20000 in
theorem c_letter {M : AM} {v : Int32} (hQ : Q (.inl (some (.int (bI (inI v 97 122))))) M) : Tr tX2_isLetter 0 0 [.int v] M Q := by
  refine Tr.run sX2_isLetter (by decide +kernel) rfl 60 fun X => ?_
  refine And.intro (fun h => ⟨rfl, ?_⟩) (fun h => And.intro (fun h2 => ⟨rfl, ?_⟩) (fun h2 => ⟨rfl, ?_⟩))
  · rw [inI_l (Int32.not_le.mpr h)] at hQ; exact hQ
  · rw [inI_h (Int32.not_le.mpr h2)] at hQ; exact hQ
  · rw [inI_t (Int32.not_lt.mp h) (Int32.not_lt.mp h2)] at hQ; exact hQ
set_option maxRecDepth 20000 in
theorem c_digit {M : AM} {v : Int32} (hQ : Q (.inl (some (.int (bI (inI v 48 57))))) M) : Tr tX2_isDigit 0 0 [.int v] M Q := by
  refine Tr.run sX2_isDigit (by decide +kernel) rfl 60 fun X => ?_
  refine And.intro (fun h => ⟨rfl, ?_⟩) (fun h => And.intro (fun h2 => ⟨rfl, ?_⟩) (fun h2 => ⟨rfl, ?_⟩))
  · rw [inI_l (Int32.not_le.mpr h)] at hQ; exact hQ
  · rw [inI_h (Int32.not_le.mpr h2)] at hQ; exact hQ
  · rw [inI_t (Int32.not_lt.mp h) (Int32.not_lt.mp h2)] at hQ; exact hQ
