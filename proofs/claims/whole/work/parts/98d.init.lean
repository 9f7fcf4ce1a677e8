/-! ===== the constructors ===== -/
variable {Q : AQ}
def c00 : Scn := (0, 0, 0, 0, 0, fun _ => 0)
set_option maxRecDepth 20000 in
theorem c_xinit (hQ : Q (.inl none) (tcW 0 0 (fun _ => 0))) : Tr tX3_init 1 150 [.ref 0] [.inr (2, [.int 0, .null])] Q := by
  refine Tr.of sX3_init (by decide +kernel) (Nat.le_of_ble_eq_true rfl) fun X hX => ?_
  refine go hX (fun _ => none) 20 ?_
  exact ⟨rfl, trivial, hQ⟩
set_option maxRecDepth 20000 in
theorem c_cinit (hQ : Q (.inl none) (scW 0 c00)) : Tr tX2_init 1 3 [.ref 0] [.inr (1, [.null, .null, .int 0, .int 0, .int 0, .int 0])] Q := by
  refine Tr.of sX2_init (by decide +kernel) (Nat.le_of_ble_eq_true rfl) fun X hX => ?_
  refine go hX (fun _ => none) 30 ?_
  exact ⟨trivial, rfl, trivial, hQ⟩
set_option maxRecDepth 20000 in
theorem m_thrown {mc ms : Nat} {g P H X G f : Nat → Int32} {h : Int64} (hQ : Q (.inl (some (.int (f 3)))) (mdW g P H X G f h)) : Tr tX10_thrown mc ms [.ref 0] (mdW g P H X G f h) Q := by
  refine Tr.run sX10_thrown (by decide +kernel) rfl 20 fun X => ?_
  exact hQ
def mf0 : Nat → Int32 := fun k => if k = 4 then -1 else 0
set_option maxRecDepth 20000 in
theorem m_init (hQ : ∀ g : Nat → Int32, RS g initS → Q (.inl none) (mdW g (fun _ => 0) (fun _ => 0) (fun _ => 0) (fun _ => 0) mf0 0)) : Tr tX10_init 10 2000 [.ref 0] [.inr (8, [.null, .null, .null, .int 0, .int 0, .null, .int 0, .int 0, .int 0, .int 0, .int 0, .int 0, .null, .long 0])] Q := by
  refine Tr.of sX10_init (by decide +kernel) (Nat.le_of_ble_eq_true rfl) fun X hX => ?_
  have p52 : X 52 [some (.ref 0)] [] (mdW (fun _ => 0) (fun _ => 0) (fun _ => 0) (fun _ => 0) (fun _ => 0) mf0 0) (5, 1049) := by
    refine go hX (fun _ => none) 80 ?_
    refine ⟨in_lit (by decide), in_lit (by decide), in_lit (by decide), in_lit (by decide), in_lit (by decide), ?_⟩
    refine hQ (upd (upd (upd (upd (upd (fun _ => 0) 0 12) 1 6) 3 3) 4 30) 20 1) ⟨fun k hk => ?_, rfl, rfl, fun k r h => by simp [initS] at h, fun k r h => by simp [initS] at h⟩
    rcases (show k = 0 ∨ k = 1 ∨ k = 2 ∨ k = 3 ∨ k = 4 ∨ k = 5 ∨ k = 6 ∨ k = 7 ∨ k = 8 ∨ k = 9 ∨ k = 10 ∨ k = 11 ∨ k = 12 ∨ k = 13 ∨ k = 14 ∨ k = 15 ∨ k = 16 ∨ k = 17 ∨ k = 18 ∨ k = 19 ∨ k = 20 by omega) with rfl | rfl | rfl | rfl | rfl | rfl | rfl | rfl | rfl | rfl | rfl | rfl | rfl | rfl | rfl | rfl | rfl | rfl | rfl | rfl | rfl <;> rfl
  refine go hX (fun pc => if pc = 52 then some 1 else none) 80 ?_
  exact ⟨rfl, trivial, rfl, trivial, rfl, trivial, rfl, trivial, rfl, trivial, p52⟩
