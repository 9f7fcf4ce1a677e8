/-! ===== CommandScan: take ===== -/
variable {Q : AQ}
def takeC (len : Int32) (B : Nat → Int32) (at_ : Int32) (c : Scn) : Int32 × Scn :=
  if c.2.1 = 0 then frontC (byteV len B at_) at_ c else if c.2.1 = 1 then wordC len B (byteV len B at_) at_ c else if c.2.1 = 2 then gapC (byteV len B at_) at_ c else numC (byteV len B at_) at_ c
set_option maxRecDepth 20000 in
theorem c_take {c : Scn} {len at_ : Int32} {B : Nat → Int32} {w a n : Nat} (hl : len.toInt ≤ 150) (hws : c.2.1 = 1 → c.2.2.1 = nI w ∧ w ≤ a) (ha : at_ = nI a) (ha2 : a ≤ 200) (hw : Wd6 c.1) (hn : c.2.2.2.1 = nI n) (hn3 : n ≤ 3) (hQ : Q (.inl (some (.int (takeC len B at_ c).1))) (scW 0 (takeC len B at_ c).2 ++ tcW 2 len B)) : Tr tX2_take 0 0 [.ref 0, .ref 2, .int at_] (scW 0 c ++ tcW 2 len B) Q := by
  refine Tr.run sX2_take (by decide +kernel) rfl 60 fun X => ?_
  refine Tr.at [2, 3] (c_byteAt (B := B) (len := len) hl ?_) rfl rfl rfl
  unfold takeC at hQ
  refine And.intro (fun h0 => ?_) (fun h0 => And.intro (fun h1 => ?_) (fun h1 => And.intro (fun h2 => ?_) (fun h2 => ?_)))
  · rw [if_pos h0] at hQ
    refine Tr.at [0, 1] (c_front (c := c) ?_) rfl rfl rfl
    exact hQ
  · rw [if_neg h0, if_pos (show c.2.1 = 1 from h1)] at hQ
    exact c_word hl (hws h1).1 ha (hws h1).2 ha2 hQ
  · rw [if_neg h0, if_neg (show ¬ c.2.1 = 1 from h1), if_pos (show c.2.1 = 2 from h2)] at hQ
    refine Tr.at [0, 1] (c_gap (c := c) hw hn hn3 ?_) rfl rfl rfl
    exact hQ
  · rw [if_neg h0, if_neg (show ¬ c.2.1 = 1 from h1), if_neg (show ¬ c.2.1 = 2 from h2)] at hQ
    refine Tr.at [0, 1] (c_num (c := c) hw hn hn3 ?_) rfl rfl rfl
    exact hQ
