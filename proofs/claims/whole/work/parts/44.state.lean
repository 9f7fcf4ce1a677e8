/-! ===== State: its world, the easy methods ===== -/
theorem Tr.at {d : TrD} {mc ms : Nat} {a a' : List Value} {M Mb : AM} {Q' : AQ} (emb : List Nat) (h : Tr d mc ms a M (fun o M' => Q' (upr (embF emb Mb.length) o) (mrg emb Mb M'))) (hn : va_nd emb = true) (hM : emb.map (fun k => Mb[k]?) = M.map (fun o => some (upo (embF emb Mb.length) o))) (ha : a' = a.map (upv (embF emb Mb.length))) : Tr d mc ms a' Mb Q' :=
  Tr.lift emb h hn hM ha (fun _ _ _ q => q)
def stA (b : Nat) (u : Nat → Int32) (n : Int32) (S : Nat → Int32) (R : Nat → Nat → Int32) (L : Nat → Int32) : AM :=
  [.inr (5, [.int (u 0), .int (u 1), .int (u 6), .ref (b + 1), .ref (b + 2), .ref (b + 3), .ref (b + 9), .ref (b + 11)]), .inl (0, 4, .inl S), armO (u 16) (u 17) (u 18) (u 19) (u 20),
   .inr (4, [.int n, .int (u 7), .ref (b + 4), .ref (b + 5), .ref (b + 6), .ref (b + 7), .ref (b + 8)]), .inl (0, 12, .inl (R 0)), .inl (0, 12, .inl (R 1)), .inl (0, 12, .inl (R 2)), .inl (0, 12, .inl (R 3)), .inl (0, 12, .inl (R 4)),
   .inr (3, [.int (u 8), .ref (b + 10)]), .inl (0, 50, .inl L), taO (u 9) (u 10) (u 11) (u 12) (u 13) (u 14) (u 15)]
variable {u : Nat → Int32} {n : Int32} {S : Nat → Int32} {R : Nat → Nat → Int32} {L : Nat → Int32} {Q : AQ}
set_option maxRecDepth 20000 in
theorem c_start {goal : Int32} (hQ : Q (.inl none) (stA 0 (upd (upd (upd (upd (upd u 17 (if u 16 < goal then 1 else 2)) 16 (u 16 + (if u 16 < goal then 1 else -1))) 18 (u 18 + 2)) 12 (u 12 + 1)) 11 (u 11 + 1)) n S R L)) : Tr tX6_start 0 0 [.ref 0, .int goal] (stA 0 u n S R L) Q := by
  refine Tr.run sX6_start (by decide +kernel) rfl 60 fun X => ?_
  refine And.intro (fun h => ?_) (fun h => ?_)
  · rw [if_neg (Int32.not_lt.mpr h), if_neg (Int32.not_lt.mpr h)] at hQ
    refine Tr.at [2] (c_step ?_) rfl rfl rfl
    exact hQ
  · rw [if_pos (Int32.not_le.mp h), if_pos (Int32.not_le.mp h)] at hQ
    refine Tr.at [2] (c_step ?_) rfl rfl rfl
    exact hQ
