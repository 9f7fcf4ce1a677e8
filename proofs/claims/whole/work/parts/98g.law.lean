/-! ===== the law's world ===== -/
def mdU (g P H X G f : Nat → Int32) (h : Int64) (g1 : Nat → Int64) : AM :=
  nW (.inr (8, [.ref 84, .ref 85, .ref 86, .int (f 0), .int (f 1), .ref 87, .int (f 2), .int (f 3), .int (f 4), .int (f 5), .int (f 6), .int (f 7), .ref 88, .long h])) (.inl (0, 133, .inl g)) (.inl (0, 532, .inl P)) (.inl (0, 133, .inl H)) (.inl (0, 150, .inl X)) (.inl (0, 3, .inl G)) g1
def eM : List Nat := [83, 84, 85, 86, 87, 88]
def pM : List (Option Nat) := [none, none, none, none, none, none, none, none, none, none, none, none, none, none, none, none, none, none, none, none, none, none, none, none, none, none, none, none, none, none, none, none, none, none, none, none, none, none, none, none, none, none, none, none, none, none, none, none, none, none, none, none, none, none, none, none, none, none, none, none, none, none, none, none, none, none, none, none, none, none, none, none, none, none, none, none, none, none, none, none, none, none, none, some 0, some 1, some 2, some 3, some 4, some 5]
def LW (T : Nat) (a : Kp) (tx : List Int32) (W : AM) : Prop := ∃ (Mc : AM) (g P H X G f : Nat → Int32) (h : Int64) (g1 : Nat → Int64), W = Mc ++ mdU g P H X G f h g1 ∧ mcl Mc ∧ CW T a tx.length (fun k => tx.getD k 0) Mc ∧ AInv T a ∧ LM a tx g P X f
abbrev LL (i : Int32) (x5 x6 : Option Value) : AL := [some (.float 23), some (.ref 0), some (.ref 83), some (.ref 89), some (.int i), x5, x6]
theorem lgc {x y : Int64} (h : x = y) : lg_cmp x y = 0 := by
  subst h
  unfold lg_cmp
  simp
