/-! ===== the reference: moves, logs, reads, givesUp ===== -/
variable {g P H X G f : Nat → Int32} {h : Int64} {Q : AQ}
def moveM (g : Nat → Int32) (by_ : Int32) : Nat → Int32 :=
  if g 17 = 0 then (if by_ = 0 then g else if g 19 = 0 then upd (upd (upd (upd (upd g 12 (g 12 + 1)) 17 (if 0 < by_ then 1 else 2)) 16 (g 16 + (if 0 < by_ then 1 else -1))) 18 (g 18 + 2)) 11 (g 11 + 1) else g)
  else if (if g 17 = 1 then 0 < by_ else by_ < 0) then upd (upd (upd (upd g 17 (g 17)) 16 (g 16 + (if g 17 = 1 then 1 else -1))) 18 (g 18 + 1)) 11 (g 11 + 1)
  else upd (upd (upd g 17 0) 18 (g 18 + g 3)) 13 (g 13 + 1)
def byM (g : Nat → Int32) : Option Nat → Int32
  | none => 0
  | some k => trN g k - g 16
set_option maxRecDepth 20000 in
theorem m_moves {o : Option Nat} (ho : ∀ k, o = some k → k < 12) (hQ : Q (.inl none) (mdW (moveM g (byM g o)) P H X G f h)) : Tr tX10_moves 0 0 [.ref 0, .int (ix o)] (mdW g P H X G f h) Q := by
  refine Tr.of sX10_moves (by decide +kernel) (Nat.le_of_ble_eq_true rfl) fun Y hX => ?_
  have key : ∀ b : Int32, byM g o = b → Y 24 [some (.ref 0), some (.int (ix o)), some (.int b)] [] (mdW g P H X G f h) (0, 0) := by
    intro b hb
    rw [hb] at hQ
    unfold moveM at hQ
    have far : ¬ g 17 = 0 → Y 98 [some (.ref 0), some (.int (ix o)), some (.int b)] [] (mdW g P H X G f h) (0, 0) ∨ ¬ (if g 17 = 1 then 0 < b else b < 0) := by
      intro h17
      by_cases hf : (if g 17 = 1 then 0 < b else b < 0)
      · rw [if_neg h17, if_pos hf] at hQ
        refine Or.inl (go hX (fun _ => none) 40 ?_)
        refine ⟨in_lit (by decide), ?_⟩
        refine m_steps (way := g 17) (heat := 1) ?_
        exact hQ
      · exact Or.inr hf
    have stop : ¬ g 17 = 0 → ¬ (if g 17 = 1 then 0 < b else b < 0) → Y 113 [some (.ref 0), some (.int (ix o)), some (.int b)] [] (mdW g P H X G f h) (0, 0) := by
      intro h17 hf
      rw [if_neg h17, if_neg hf] at hQ
      refine go hX (fun _ => none) 40 ?_
      exact ⟨in_lit (by decide), in_lit (by decide), in_lit (by decide), in_lit (by decide), in_lit (by decide), in_lit (by decide), hQ⟩
    refine go hX (fun pc => if pc = 98 then some 3 else if pc = 113 then some 3 else none) 60 ?_
    refine ⟨in_lit (by decide), And.intro (fun h17 => ⟨in_lit (by decide), And.intro (fun h1 => And.intro (fun hb0 => ?_) (fun hb0 => ?_)) (fun h1 => And.intro (fun hb0 => ?_) (fun hb0 => ?_))⟩) (fun h17 => And.intro (fun hb0 => ?_) (fun hb0 => ⟨in_lit (by decide), And.intro (fun hr => ?_) (fun hr => ⟨in_lit (by decide), in_lit (by decide), And.intro (fun hp => ?_) (fun hp => ?_)⟩)⟩))⟩
    · exact stop h17 (by rw [if_neg (show ¬ g 17 = 1 from h1)]; exact Int32.not_lt.mpr hb0)
    · exact (far h17).resolve_right (fun z => z (by rw [if_neg (show ¬ g 17 = 1 from h1)]; exact Int32.not_le.mp hb0))
    · exact stop h17 (by rw [if_pos (show g 17 = 1 from h1)]; exact Int32.not_lt.mpr hb0)
    · exact (far h17).resolve_right (fun z => z (by rw [if_pos (show g 17 = 1 from h1)]; exact Int32.not_le.mp hb0))
    · rw [if_pos (show g 17 = 0 from h17), if_pos hb0] at hQ
      exact hQ
    · rw [if_pos (show g 17 = 0 from h17), if_neg hb0, if_neg (show ¬ g 19 = 0 from hr)] at hQ
      exact hQ
    · rw [if_pos (show g 17 = 0 from h17), if_neg hb0, if_pos (show g 19 = 0 from hr), if_neg (Int32.not_lt.mpr hp), if_neg (Int32.not_lt.mpr hp)] at hQ
      refine m_steps (g := upd g 12 (g 12 + 1)) (way := 2) (heat := 2) ?_
      exact hQ
    · rw [if_pos (show g 17 = 0 from h17), if_neg hb0, if_pos (show g 19 = 0 from hr), if_pos (Int32.not_le.mp hp), if_pos (Int32.not_le.mp hp)] at hQ
      refine m_steps (g := upd g 12 (g 12 + 1)) (way := 1) (heat := 2) ?_
      exact hQ
  refine go hX (fun pc => if pc = 24 then some 3 else none) 60 ?_
  cases o with
  | none => exact And.intro (fun h => absurd rfl h) (fun _ => key 0 rfl)
  | some k =>
    have hk := ho k rfl
    refine And.intro (fun _ => ?_) (fun h => absurd h (ix_ne (by omega)))
    refine m_of (v := trN g k) (show ix (some k) = nI k from rfl) (show (1 : Int32) = nI 1 from rfl) (by omega) rfl ?_
    exact ⟨in_lit (by decide), key _ rfl⟩
