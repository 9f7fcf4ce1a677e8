/-! ===== CommandScan: takeInWord ===== -/
variable {Q : AQ}
def wordC (len : Int32) (B : Nat → Int32) (v at_ : Int32) (c : Scn) : Int32 × Scn :=
  if inI v 97 122 = true then (-1, c) else if wordV len B c.2.2.1.toNatClampNeg at_.toNatClampNeg = 0 then (c.2.2.1, (0, c.2)) else if v = 32 then (-1, (wordV len B c.2.2.1.toNatClampNeg at_.toNatClampNeg, 2, c.2.2.1, 0, c.2.2.2.2)) else (at_, (wordV len B c.2.2.1.toNatClampNeg at_.toNatClampNeg, c.2))
theorem wordV_6 (len : Int32) (B : Nat → Int32) (fr en : Nat) : Wd6 (wordV len B fr en) := by
  unfold wordV Wd6
  split
  · simp
  · split
    · simp
    · split
      · simp
      · split
        · simp
        · split
          · simp
          · split <;> simp
set_option maxRecDepth 20000 in
theorem c_word {c : Scn} {len v at_ : Int32} {B : Nat → Int32} {w a : Nat} (hl : len.toInt ≤ 150) (hws : c.2.2.1 = nI w) (ha : at_ = nI a) (hwa : w ≤ a) (ha2 : a ≤ 200) (hQ : Q (.inl (some (.int (wordC len B v at_ c).1))) (scW 0 (wordC len B v at_ c).2 ++ tcW 2 len B)) : Tr tX2_takeInWord 0 0 [.ref 0, .ref 2, .int v, .int at_] (scW 0 c ++ tcW 2 len B) Q := by
  obtain ⟨wd, pl, ws, nc, dg, N⟩ := c
  dsimp only at hws
  unfold wordC at hQ
  dsimp only at hQ
  have e1 : ws.toNatClampNeg = w := by rw [hws]; exact nI_clamp (by omega)
  have e2 : at_.toNatClampNeg = a := by rw [ha]; exact nI_clamp (by omega)
  rw [e1, e2] at hQ
  refine Tr.run sX2_takeInWord (by decide +kernel) rfl 60 fun X => ?_
  refine c_letter ?_
  cases hb : inI v 97 122 with
  | true =>
    rw [hb, if_pos rfl] at hQ
    exact And.intro (fun z => absurd z (by decide)) (fun _ => hQ)
  | false =>
    rw [hb, if_neg (by decide)] at hQ
    refine And.intro (fun _ => ?_) (fun z => absurd rfl z)
    refine Tr.at [2, 3] (c_wordIn (len := len) (B := B) hl hws ha hwa ha2 ?_) rfl rfl rfl
    rcases wordV_6 len B w a with e | e | e | e | e | e <;> rw [e] at hQ ⊢
    · exact ⟨trivial, And.intro (fun z => absurd rfl z) (fun _ => hQ)⟩
    all_goals (rw [if_neg (by decide)] at hQ; refine ⟨trivial, And.intro (fun _ => And.intro (fun h => ?_) (fun h => ?_)) (fun z => absurd z (by decide))⟩)
    all_goals first | (rw [if_pos h] at hQ; exact hQ) | (rw [if_neg h] at hQ; exact hQ)
