/-! ===== Arm, Tally ===== -/
def armO (a b c d e : Int32) : AO := .inr (0, [.int a, .int b, .int c, .int d, .int e])
set_option maxRecDepth 20000 in
theorem c_opposite {M : AM} {d : Int32} {Q : AQ} (hQ : Q (.inl (some (.int (opp d)))) M) : Tr tX1_opposite 0 0 [.int d] M Q := by
  refine Tr.run sX1_opposite (by decide +kernel) rfl 30 fun X => ?_
  unfold opp at hQ
  refine And.intro (fun h => ?_) (fun h => ?_)
  · rw [if_neg h] at hQ; exact hQ
  · rw [if_pos h] at hQ; exact hQ
set_option maxRecDepth 20000 in
theorem c_areset {a b c d e : Int32} {Q : AQ} (hQ : Q (.inl none) [armO 0 0 0 0 1]) : Tr tX1_reset 0 0 [.ref 0] [armO a b c d e] Q := by
  refine Tr.run sX1_reset (by decide +kernel) rfl 30 fun X => ?_
  exact ⟨Or.inl rfl, hQ⟩
set_option maxRecDepth 20000 in
theorem c_acopy {a b c d e a1 b1 c1 d1 e1 : Int32} {Q : AQ} (hd : d1 = 0 ∨ d1 = 1) (hQ : Q (.inl none) [armO a1 b1 c1 d1 e1, armO a1 b1 c1 d1 e1]) : Tr tX1_copyFrom 0 0 [.ref 0, .ref 1] [armO a b c d e, armO a1 b1 c1 d1 e1] Q := by
  refine Tr.run sX1_copyFrom (by decide +kernel) rfl 30 fun X => ?_
  exact ⟨hd, hQ⟩
set_option maxRecDepth 20000 in
theorem c_farther {a b c d e goal : Int32} {Q : AQ} (hQ : Q (.inl (some (.int (z01 (if b = 1 then a < goal else goal < a))))) [armO a b c d e]) : Tr tX1_liesFarther 0 0 [.ref 0, .int goal] [armO a b c d e] Q := by
  refine Tr.run sX1_liesFarther (by decide +kernel) rfl 30 fun X => ?_
  refine And.intro (fun h => ?_) (fun h => ?_)
  · refine And.intro (fun h2 => ?_) (fun h2 => ?_)
    · rw [z01_f (by rw [if_neg h]; exact Int32.not_lt.mpr h2)] at hQ; exact ⟨rfl, hQ⟩
    · rw [z01_t (by rw [if_neg h]; exact Int32.not_le.mp h2)] at hQ; exact ⟨rfl, hQ⟩
  · refine And.intro (fun h2 => ?_) (fun h2 => ?_)
    · rw [z01_f (by rw [if_pos h]; exact Int32.not_lt.mpr h2)] at hQ; exact ⟨rfl, hQ⟩
    · rw [z01_t (by rw [if_pos h]; exact Int32.not_le.mp h2)] at hQ; exact ⟨rfl, hQ⟩
set_option maxRecDepth 20000 in
theorem c_step {a b c d e : Int32} {Q : AQ} (hQ : Q (.inl none) [armO (a + (if b = 1 then 1 else -1)) b c d e]) : Tr tX1_step 0 0 [.ref 0] [armO a b c d e] Q := by
  refine Tr.run sX1_step (by decide +kernel) rfl 30 fun X => ?_
  refine And.intro (fun h => ?_) (fun h => ?_)
  · rw [if_neg h] at hQ; exact hQ
  · rw [if_pos h] at hQ; exact hQ
def coolH (c : Int32) : Int32 := if 0 < c then c - 1 else c
def coolR (lim c d : Int32) : Int32 := if lim ≤ c then 1 else if c ≤ lim / 2 then 0 else d
set_option maxRecDepth 20000 in
theorem c_cool {a b c d e lim : Int32} {Q : AQ} (hQ : Q (.inl none) [armO a b (coolH c) (coolR lim (coolH c) d) e]) : Tr tX1_cool 0 0 [.ref 0, .int lim] [armO a b c d e] Q := by
  refine Tr.run sX1_cool (by decide +kernel) rfl 30 fun X => ?_
  have h2 : ¬ (2 : Int32) = 0 := by decide
  refine And.intro (fun h => ?_) (fun h => ?_)
  · rw [show coolH c = c from if_neg (Int32.not_lt.mpr h)] at hQ
    refine And.intro (fun g => ⟨h2, And.intro (fun k => ?_) (fun k => ⟨Or.inl rfl, ?_⟩)⟩) (fun g => ⟨Or.inr rfl, ?_⟩)
    · rw [show coolR lim c d = d from (if_neg (Int32.not_le.mpr g)).trans (if_neg (Int32.not_le.mpr k))] at hQ; exact hQ
    · rw [show coolR lim c d = 0 from (if_neg (Int32.not_le.mpr g)).trans (if_pos (Int32.not_lt.mp k))] at hQ; exact hQ
    · rw [show coolR lim c d = 1 from if_pos (Int32.not_lt.mp g)] at hQ; exact hQ
  · rw [show coolH c = c - 1 from if_pos (Int32.not_le.mp h)] at hQ
    refine And.intro (fun g => ⟨h2, And.intro (fun k => ?_) (fun k => ⟨Or.inl rfl, ?_⟩)⟩) (fun g => ⟨Or.inr rfl, ?_⟩)
    · rw [show coolR lim (c - 1) d = d from (if_neg (Int32.not_le.mpr g)).trans (if_neg (Int32.not_le.mpr k))] at hQ; exact hQ
    · rw [show coolR lim (c - 1) d = 0 from (if_neg (Int32.not_le.mpr g)).trans (if_pos (Int32.not_lt.mp k))] at hQ; exact hQ
    · rw [show coolR lim (c - 1) d = 1 from if_pos (Int32.not_lt.mp g)] at hQ; exact hQ
set_option maxRecDepth 20000 in
theorem c_ainit {Q : AQ} (hQ : Q (.inl none) [armO 0 0 0 0 1]) : Tr tX1_init 0 0 [.ref 0] [armO 0 0 0 0 0] Q := by
  refine Tr.run sX1_init (by decide +kernel) rfl 30 fun X => ?_
  exact hQ
def taO (a b c d e f g : Int32) : AO := .inr (6, [.int a, .int b, .int c, .int d, .int e, .int f, .int g])
set_option maxRecDepth 20000 in
theorem c_tinit {a b c d e f g : Int32} {Q : AQ} (hQ : Q (.inl none) [taO a b c d e f g]) : Tr tX7_init 0 0 [.ref 0] [taO a b c d e f g] Q := by
  refine Tr.run sX7_init (by decide +kernel) rfl 30 fun X => ?_
  exact hQ
set_option maxRecDepth 20000 in
theorem c_treset {a b c d e f g : Int32} {Q : AQ} (hQ : Q (.inl none) [taO 0 0 0 0 0 0 0]) : Tr tX7_reset 0 0 [.ref 0] [taO a b c d e f g] Q := by
  refine Tr.run sX7_reset (by decide +kernel) rfl 40 fun X => ?_
  exact hQ
set_option maxRecDepth 20000 in
theorem c_tcopy {a b c d e f g a1 b1 c1 d1 e1 f1 g1 : Int32} {Q : AQ} (hQ : Q (.inl none) [taO a1 b1 c1 d1 e1 f1 g1, taO a1 b1 c1 d1 e1 f1 g1]) : Tr tX7_copyFrom 0 0 [.ref 0, .ref 1] [taO a b c d e f g, taO a1 b1 c1 d1 e1 f1 g1] Q := by
  refine Tr.run sX7_copyFrom (by decide +kernel) rfl 50 fun X => ?_
  exact hQ

