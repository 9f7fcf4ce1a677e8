/-! trial -/
def armO (tr di he : Int32) (re : Bool) (sw : Int32) : AO := .inr (0, [.int tr, .int di, .int he, .int (if re then 1 else 0), .int sw])
theorem c_opposite (x : Int32) (M : AM) (Q : AQ) (hQ : Q (.inl (some (.int (if x = 1 then 2 else 1)))) M) : Tr tX1_opposite 0 0 [.int x] M Q := by
  refine Tr.of sX1_opposite (by decide +kernel) (Nat.le_of_ble_eq_true rfl) fun X hX => ?_
  refine go hX (fun _ => none) 50 ?_
  refine And.intro (fun h => ?_) (fun h => ?_)
  · rw [if_neg h] at hQ; exact hQ
  · rw [if_pos h] at hQ; exact hQ
theorem c_step (tr di he : Int32) (re : Bool) (sw : Int32) (Q : AQ) (hQ : Q (.inl none) [armO (tr + (if di = 1 then 1 else -1)) di he re sw]) : Tr tX1_step 0 0 [.ref 0] [armO tr di he re sw] Q := by
  refine Tr.of sX1_step (by decide +kernel) (Nat.le_of_ble_eq_true rfl) fun X hX => ?_
  refine go hX (fun _ => none) 50 ?_
  refine And.intro (fun h => ?_) (fun h => ?_)
  · rw [if_neg h] at hQ; exact hQ
  · rw [if_pos h] at hQ; exact hQ
