/-! ===== the constructors ===== -/
variable {Q : AQ}
def c00 : Scn := (0, 0, 0, 0, 0, fun _ => 0)
set_option maxRecDepth 20000 in
theorem c_xinit (hQ : Q (.inl none) (tcW 0 0 (fun _ => 0))) : Tr tX3_init 1 150 [.ref 0] [.inr (2, [.int 0, .null])] Q := by
  refine Tr.of sX3_init (by decide +kernel) (Nat.le_of_ble_eq_true rfl) fun X hX => ?_
  refine go hX (fun _ => none) 20 ?_
  exact ⟨rfl, trivial, hQ⟩
set_option maxRecDepth 20000 in
theorem c_cinit (hQ : Q (.inl none) (scW 0 c00)) : Tr tX2_init 1 3 [.ref 0] [.inr (1, [.null, .null, .int 0, .int 0, .int 0, .int 0])] Q := by
  refine Tr.of sX2_init (by decide +kernel) (Nat.le_of_ble_eq_true rfl) fun X hX => ?_
  refine go hX (fun _ => none) 30 ?_
  exact ⟨trivial, rfl, trivial, hQ⟩
