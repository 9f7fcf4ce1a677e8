/-! ===== CommandScan: its world, the easy steps ===== -/
variable {Q : AQ}
abbrev Scn : Type := UInt32 × Int32 × Int32 × Int32 × Int32 × (Nat → Int32)
def scW (k : Nat) (c : Scn) : AM := [.inr (1, [.float c.1, .ref (k + 1), .int c.2.1, .int c.2.2.1, .int c.2.2.2.1, .int c.2.2.2.2.1]), .inl (0, 3, .inl c.2.2.2.2.2)]
def setPl (c : Scn) (p : Int32) : Scn := (c.1, p, c.2.2)
def frontC (v at_ : Int32) (c : Scn) : Int32 × Scn := if v = 32 then (-1, c) else if inI v 97 122 = true then (-1, (c.1, 1, at_, c.2.2.2)) else (at_, c)
set_option maxRecDepth 20000 in
theorem c_begin_ {c : Scn} (hQ : Q (.inl none) (scW 0 (setPl c 0))) : Tr tX2_begin 0 0 [.ref 0] (scW 0 c) Q := by
  refine Tr.run sX2_begin (by decide +kernel) rfl 30 fun X => ?_
  exact hQ
set_option maxRecDepth 20000 in
theorem c_front {c : Scn} {v at_ : Int32} (hQ : Q (.inl (some (.int (frontC v at_ c).1))) (scW 0 (frontC v at_ c).2)) : Tr tX2_takeInFront 0 0 [.ref 0, .int v, .int at_] (scW 0 c) Q := by
  refine Tr.run sX2_takeInFront (by decide +kernel) rfl 40 fun X => ?_
  unfold frontC at hQ
  refine And.intro (fun h => ?_) (fun h => ?_)
  · rw [if_neg h] at hQ
    refine c_letter ?_
    cases hb : inI v 97 122 with
    | true =>
      rw [hb, if_pos rfl] at hQ
      exact And.intro (fun _ => hQ) (fun z => absurd z (by decide))
    | false =>
      rw [hb, if_neg (by decide)] at hQ
      exact And.intro (fun z => absurd rfl z) (fun _ => hQ)
  · rw [if_pos h] at hQ
    exact hQ
def Wd6 (u : UInt32) : Prop := u = 0 ∨ u = 1 ∨ u = 2 ∨ u = 3 ∨ u = 4 ∨ u = 5
def wdN (u : UInt32) : Int32 := [0, 2, 3, 1, 2, 1].getD u.toNat 0
def behC (v at_ : Int32) (c : Scn) : Int32 × Scn := if v = 32 then (-1, setPl c 2) else if v = 59 then (if c.2.2.2.1 = wdN c.1 then (-1, setPl c 0) else (at_, c)) else (at_, c)
set_option maxRecDepth 20000 in
theorem c_behind {c : Scn} {v at_ : Int32} (hw : Wd6 c.1) (hQ : Q (.inl (some (.int (behC v at_ c).1))) (scW 0 (behC v at_ c).2)) : Tr tX2_takeBehindNumber 0 0 [.ref 0, .int v, .int at_] (scW 0 c) Q := by
  obtain ⟨wd, pl, ws, nc, dg, N⟩ := c
  unfold behC at hQ
  rcases hw with hw | hw | hw | hw | hw | hw <;>
  · dsimp only at hw
    subst hw
    refine Tr.run sX2_takeBehindNumber (by decide +kernel) rfl 40 fun X => ?_
    refine And.intro (fun h => And.intro (fun h2 => ?_) (fun h2 => And.intro (fun h3 => ?_) (fun h3 => ?_))) (fun h => ?_)
    · rw [if_neg h, if_neg h2] at hQ; exact hQ
    · rw [if_neg h, if_pos h2] at hQ
      split at hQ
      · rename_i h4
        exact absurd h4 h3
      · exact hQ
    · rw [if_neg h, if_pos h2] at hQ
      split at hQ
      · exact hQ
      · rename_i h4
        exact absurd h3 h4
    · rw [if_pos h] at hQ; exact hQ
def gapC (v at_ : Int32) (c : Scn) : Int32 × Scn :=
  if inI v 48 57 = true then (if wdN c.1 ≤ c.2.2.2.1 then (at_, c) else if 3 ≤ c.2.2.2.1 then (at_, c) else (-1, (c.1, 3, c.2.2.1, c.2.2.2.1 + 1, 1, upd c.2.2.2.2.2 c.2.2.2.1.toNatClampNeg (v - 48)))) else behC v at_ c
def numC (v at_ : Int32) (c : Scn) : Int32 × Scn :=
  if inI v 48 57 = true then (if 4 ≤ c.2.2.2.2.1 then (at_, c) else if 1 ≤ c.2.2.2.1 then (-1, (c.1, c.2.1, c.2.2.1, c.2.2.2.1, c.2.2.2.2.1 + 1, upd c.2.2.2.2.2 (c.2.2.2.1 - 1).toNatClampNeg (10 * c.2.2.2.2.2 (c.2.2.2.1 - 1).toNatClampNeg + v - 48))) else (at_, c)) else behC v at_ c
set_option maxRecDepth 20000 in
theorem c_num {c : Scn} {v at_ : Int32} {n : Nat} (hw : Wd6 c.1) (hn : c.2.2.2.1 = nI n) (hn3 : n ≤ 3) (hQ : Q (.inl (some (.int (numC v at_ c).1))) (scW 0 (numC v at_ c).2)) : Tr tX2_takeInNumber 0 0 [.ref 0, .int v, .int at_] (scW 0 c) Q := by
  obtain ⟨wd, pl, ws, nc, dg, N⟩ := c
  dsimp only at hn
  refine Tr.run sX2_takeInNumber (by decide +kernel) rfl 60 fun X => ?_
  unfold numC at hQ
  dsimp only at hQ
  refine c_digit ?_
  cases hb : inI v 48 57 with
  | false =>
    rw [hb, if_neg (by decide)] at hQ
    refine And.intro (fun z => absurd rfl z) (fun _ => ?_)
    exact c_behind hw hQ
  | true =>
    rw [hb, if_pos rfl] at hQ
    refine And.intro (fun _ => And.intro (fun h1 => ?_) (fun h1 => And.intro (fun h2 => ?_) (fun h2 => ?_))) (fun z => absurd z (by decide))
    · rw [if_pos (show 4 ≤ dg from h1)] at hQ
      exact hQ
    · rw [if_neg (show ¬ 4 ≤ dg from h1), if_pos (show 1 ≤ nc from h2)] at hQ
      have n1 : 1 ≤ n := by
        have := Int32.le_iff_toInt_le.mp h2
        rw [show ((wd, pl, ws, nc, dg, N) : Scn).2.2.2.1 = nI n from hn, nI_toInt (by omega), i32_1] at this
        omega
      have e : nc - 1 = nI (n - 1) := by rw [hn]; exact sub_nI (a := n) (b := 1) n1
      have v0 : vp_in (nc - 1) 3 := by rw [e]; exact in_nI (by omega) (by decide)
      exact ⟨v0, v0, hQ⟩
    · rw [if_neg (show ¬ 4 ≤ dg from h1), if_neg (show ¬ 1 ≤ nc from h2)] at hQ
      exact hQ
set_option maxRecDepth 20000 in
theorem c_gap {c : Scn} {v at_ : Int32} {n : Nat} (hw : Wd6 c.1) (hn : c.2.2.2.1 = nI n) (hn3 : n ≤ 3) (hQ : Q (.inl (some (.int (gapC v at_ c).1))) (scW 0 (gapC v at_ c).2)) : Tr tX2_takeInGap 0 0 [.ref 0, .int v, .int at_] (scW 0 c) Q := by
  obtain ⟨wd, pl, ws, nc, dg, N⟩ := c
  dsimp only at hn
  unfold gapC at hQ
  dsimp only at hQ
  have hw' := hw
  rcases hw' with e | e | e | e | e | e <;>
  · dsimp only at e
    subst e
    refine Tr.run sX2_takeInGap (by decide +kernel) rfl 60 fun X => ?_
    refine c_digit ?_
    cases hb : inI v 48 57 with
    | false =>
      rw [hb, if_neg (by decide)] at hQ
      refine And.intro (fun z => absurd rfl z) (fun _ => ?_)
      exact c_behind hw hQ
    | true =>
      rw [hb, if_pos rfl] at hQ
      refine And.intro (fun _ => And.intro (fun h1 => ?_) (fun h1 => And.intro (fun h2 => ?_) (fun h2 => ?_))) (fun z => absurd z (by decide))
      · split at hQ
        · exact hQ
        · rename_i h4
          exact absurd h1 h4
      · have h2' : nc < 3 := h2
        split at hQ
        · rename_i h4
          exact absurd h4 h1
        · first | rw [if_neg (Int32.not_le.mpr h2')] at hQ | skip
          have n3 : n < 3 := by
            have := Int32.lt_iff_toInt_lt.mp h2'
            have e3 : ((3 : Int32).toInt) = 3 := by decide
            rw [hn, nI_toInt (by omega), e3] at this
            omega
          have v0 : vp_in nc 3 := by rw [hn]; exact in_nI n3 (by decide)
          exact ⟨v0, hQ⟩
      · have h2' : ¬ nc < 3 := h2
        split at hQ
        · rename_i h4
          exact absurd h4 h1
        · first | (rw [if_pos (Int32.not_lt.mp h2')] at hQ; exact hQ) | exact absurd (Int32.not_lt.mp h2') h1
