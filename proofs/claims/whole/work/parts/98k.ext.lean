/-! ===== what stood before the law's call ===== -/
theorem va_OFof {args : Array Value} {s : State} {o n d : String} {v : Value} {t : Nat} {A : Nat → Prop} {tm : Term} (hev : tm.eval args s none [] s = some (.ref t)) (hv : (Term.field tm o n d).eval args s none [] s = some v) (hA : ∀ a : Nat, a < s.heap.size → ¬ A a) : va_OF o n d v t A s s.heap := by
  cases hfo : s.fieldFound? o n d with
  | none =>
    rw [va_fe hev] at hv
    simp [State.fieldOf?, State.fieldNamed?, hfo] at hv
  | some x =>
    obtain ⟨cf, k, fi, f⟩ := x
    obtain ⟨g1, cell, g2, g3, -, -, g6⟩ := Term.field_spec hfo hev hv
    exact ⟨cf, k, fi, f, cell, hfo, g1, g2, g3, g6, hA _ (Array.getElem?_eq_some_iff.mp g2).1⟩
theorem aOA_spec {args : Array Value} {s : State} {ty : FieldType} (h : (Cond.arrayOver (.array ty)).before args s = true) :
    ∃ comp c k, s.vm.classes[c]? = some k ∧ k.kind = .array comp (.array ty) ∧ s.vm.findClass ("[" ++ (FieldType.array ty).toString) = some c := by
  simp only [Cond.before, Cond.holds, Cond.value, beq_iff_eq] at h
  cases hc : s.vm.findClass (FieldType.array ty).toString with
  | none => simp [hc] at h
  | some comp =>
    simp only [hc, Option.bind_some, Option.bind_eq_some_iff, Option.map_eq_some_iff] at h
    obtain ⟨c, hi, k, hk, hb⟩ := h
    obtain ⟨hlt, hp, -⟩ := Array.findIdx?_eq_some_iff_getElem.mp hi
    have hkk : s.vm.classes[c] = k := (Array.getElem?_eq_some_iff.mp hk).2
    rw [hkk] at hp
    cases hkind : k.kind with
    | array component t2 =>
      rw [hkind] at hb hp
      simp at hb hp
      exact ⟨comp, c, k, hk, by rw [hkind, hp, hb.1], hb.2⟩
    | _ => rw [hkind] at hb; simp at hb
theorem va_Tg {ty : FieldType} {t N : Nat} {f g : Nat → Value} {A : Nat → Prop} {U : State} {H : Heap} (h : va_T ty t N f A U H) (e : ∀ j, j < N → f j = g j) : va_T ty t N g A U H := by
  obtain ⟨cell, h1, h2, h3, h4, h5, h6, h7⟩ := h
  exact ⟨cell, h1, h2, h3, h4, h5, fun j hj => by rw [← e j hj]; exact h6 j hj, h7⟩
theorem va_ExR {args : Array Value} {s : State} {t : Term} {nm : String} (h : (Cond.exactly t nm).before args s = true) : ∃ a : Nat, t.eval args s none [] s = some (.ref a) := by
  obtain ⟨a, c, cA, kA, q1, -⟩ := Cond.exactly_spec (args := args) (first := s) (o := none) (s := s) (idx := []) (t := t) (cls := nm) h
  exact ⟨a, q1⟩
abbrev tWd (n : String) : Term := .static "PlateArm$Word" n "LPlateArm$Word;"
abbrev tSt (k : Nat) : Term := .string "PlateArm$Word" k
abbrev tBy (k : Nat) : Term := .field (.string "PlateArm$Word" k) "java/lang/String" "value" "[B"
abbrev tWS : Term := .static "PlateArm$CommandScan" "WORDS" "[LPlateArm$Word;"
abbrev tLo : Term := .static "PlateArm" "LOWEST_SETTING" "[I"
abbrev tHi : Term := .static "PlateArm" "HIGHEST_SETTING" "[I"
abbrev tSw : Term := .static "PlateArm$1" "$SwitchMap$PlateArm$Word" "[I"
def NarA (args : Array Value) (s : State) : Prop := (Jvm.Cond.and given_1 narrow_1).before args s = true
theorem tin {args : Array Value} {s : State} {w : Cond} (ht : ∀ w ∈ lw_tbl, w.before args s = true) (i : Nat) (h : lw_tbl[i]? = some w) : w.before args s = true := ht w (List.mem_of_getElem? h)
theorem x_by0 {args : Array Value} {s : State} {A : Nat → Prop} (hv : NarA args s) (hA : ∀ a : Nat, a < s.heap.size → ¬ A a) : ∃ t : Nat, (tBy 50).eval args s none [] s = some (.ref t) ∧ va_T .byte t 0 (exB []) A s s.heap := by
  have hs := flat_of_before _ hv
  exact va_Tof (args := args) (by decide) (hs _ (by decide +kernel)) (va_eqt (hs (.eq (.length (tBy 50)) (.int 0)) (by decide +kernel))) (fun j hj => absurd hj (Nat.not_lt_zero j)) hA
theorem x_by1 {args : Array Value} {s : State} {A : Nat → Prop} (hv : NarA args s) (hA : ∀ a : Nat, a < s.heap.size → ¬ A a) : ∃ t : Nat, (tBy 56).eval args s none [] s = some (.ref t) ∧ va_T .byte t 5 (exB [112, 108, 97, 116, 101]) A s s.heap := by
  have hs := flat_of_before _ hv
  refine va_Tof (args := args) (by decide) (hs _ (by decide +kernel)) (va_eqt (hs (.eq (.length (tBy 56)) (.int 5)) (by decide +kernel))) (fun j hj => ?_) hA
  rcases (show j = 0 ∨ j = 1 ∨ j = 2 ∨ j = 3 ∨ j = 4 by omega) with rfl | rfl | rfl | rfl | rfl
  · exact va_eqt (hs (.eq (.elem (tBy 56) (.int 0)) (.int 112)) (by decide +kernel))
  · exact va_eqt (hs (.eq (.elem (tBy 56) (.int 1)) (.int 108)) (by decide +kernel))
  · exact va_eqt (hs (.eq (.elem (tBy 56) (.int 2)) (.int 97)) (by decide +kernel))
  · exact va_eqt (hs (.eq (.elem (tBy 56) (.int 3)) (.int 116)) (by decide +kernel))
  · exact va_eqt (hs (.eq (.elem (tBy 56) (.int 4)) (.int 101)) (by decide +kernel))
theorem x_by2 {args : Array Value} {s : State} {A : Nat → Prop} (hv : NarA args s) (hA : ∀ a : Nat, a < s.heap.size → ¬ A a) : ∃ t : Nat, (tBy 59).eval args s none [] s = some (.ref t) ∧ va_T .byte t 4 (exB [114, 101, 97, 100]) A s s.heap := by
  have hs := flat_of_before _ hv
  refine va_Tof (args := args) (by decide) (hs _ (by decide +kernel)) (va_eqt (hs (.eq (.length (tBy 59)) (.int 4)) (by decide +kernel))) (fun j hj => ?_) hA
  rcases (show j = 0 ∨ j = 1 ∨ j = 2 ∨ j = 3 by omega) with rfl | rfl | rfl | rfl
  · exact va_eqt (hs (.eq (.elem (tBy 59) (.int 0)) (.int 114)) (by decide +kernel))
  · exact va_eqt (hs (.eq (.elem (tBy 59) (.int 1)) (.int 101)) (by decide +kernel))
  · exact va_eqt (hs (.eq (.elem (tBy 59) (.int 2)) (.int 97)) (by decide +kernel))
  · exact va_eqt (hs (.eq (.elem (tBy 59) (.int 3)) (.int 100)) (by decide +kernel))
theorem x_by3 {args : Array Value} {s : State} {A : Nat → Prop} (hv : NarA args s) (hA : ∀ a : Nat, a < s.heap.size → ¬ A a) : ∃ t : Nat, (tBy 62).eval args s none [] s = some (.ref t) ∧ va_T .byte t 6 (exB [99, 97, 110, 99, 101, 108]) A s s.heap := by
  have hs := flat_of_before _ hv
  refine va_Tof (args := args) (by decide) (hs _ (by decide +kernel)) (va_eqt (hs (.eq (.length (tBy 62)) (.int 6)) (by decide +kernel))) (fun j hj => ?_) hA
  rcases (show j = 0 ∨ j = 1 ∨ j = 2 ∨ j = 3 ∨ j = 4 ∨ j = 5 by omega) with rfl | rfl | rfl | rfl | rfl | rfl
  · exact va_eqt (hs (.eq (.elem (tBy 62) (.int 0)) (.int 99)) (by decide +kernel))
  · exact va_eqt (hs (.eq (.elem (tBy 62) (.int 1)) (.int 97)) (by decide +kernel))
  · exact va_eqt (hs (.eq (.elem (tBy 62) (.int 2)) (.int 110)) (by decide +kernel))
  · exact va_eqt (hs (.eq (.elem (tBy 62) (.int 3)) (.int 99)) (by decide +kernel))
  · exact va_eqt (hs (.eq (.elem (tBy 62) (.int 4)) (.int 101)) (by decide +kernel))
  · exact va_eqt (hs (.eq (.elem (tBy 62) (.int 5)) (.int 108)) (by decide +kernel))
theorem x_by4 {args : Array Value} {s : State} {A : Nat → Prop} (hv : NarA args s) (hA : ∀ a : Nat, a < s.heap.size → ¬ A a) : ∃ t : Nat, (tBy 65).eval args s none [] s = some (.ref t) ∧ va_T .byte t 3 (exB [115, 101, 116]) A s s.heap := by
  have hs := flat_of_before _ hv
  refine va_Tof (args := args) (by decide) (hs _ (by decide +kernel)) (va_eqt (hs (.eq (.length (tBy 65)) (.int 3)) (by decide +kernel))) (fun j hj => ?_) hA
  rcases (show j = 0 ∨ j = 1 ∨ j = 2 by omega) with rfl | rfl | rfl
  · exact va_eqt (hs (.eq (.elem (tBy 65) (.int 0)) (.int 115)) (by decide +kernel))
  · exact va_eqt (hs (.eq (.elem (tBy 65) (.int 1)) (.int 101)) (by decide +kernel))
  · exact va_eqt (hs (.eq (.elem (tBy 65) (.int 2)) (.int 116)) (by decide +kernel))
theorem x_by5 {args : Array Value} {s : State} {A : Nat → Prop} (hv : NarA args s) (hA : ∀ a : Nat, a < s.heap.size → ¬ A a) : ∃ t : Nat, (tBy 68).eval args s none [] s = some (.ref t) ∧ va_T .byte t 5 (exB [116, 105, 99, 107, 115]) A s s.heap := by
  have hs := flat_of_before _ hv
  refine va_Tof (args := args) (by decide) (hs _ (by decide +kernel)) (va_eqt (hs (.eq (.length (tBy 68)) (.int 5)) (by decide +kernel))) (fun j hj => ?_) hA
  rcases (show j = 0 ∨ j = 1 ∨ j = 2 ∨ j = 3 ∨ j = 4 by omega) with rfl | rfl | rfl | rfl | rfl
  · exact va_eqt (hs (.eq (.elem (tBy 68) (.int 0)) (.int 116)) (by decide +kernel))
  · exact va_eqt (hs (.eq (.elem (tBy 68) (.int 1)) (.int 105)) (by decide +kernel))
  · exact va_eqt (hs (.eq (.elem (tBy 68) (.int 2)) (.int 99)) (by decide +kernel))
  · exact va_eqt (hs (.eq (.elem (tBy 68) (.int 3)) (.int 107)) (by decide +kernel))
  · exact va_eqt (hs (.eq (.elem (tBy 68) (.int 4)) (.int 115)) (by decide +kernel))
theorem x_lo {args : Array Value} {s : State} {A : Nat → Prop} (hv : NarA args s) (hA : ∀ a : Nat, a < s.heap.size → ¬ A a) : ∃ t : Nat, (tLo).eval args s none [] s = some (.ref t) ∧ va_T .int t 4 (exB [0, 0, 5, 0]) A s s.heap := by
  have hs := flat_of_before _ hv
  refine va_Tof (args := args) (by decide) (hs _ (by decide +kernel)) (va_eqt (hs (.eq (.length (tLo)) (.int 4)) (by decide +kernel))) (fun j hj => ?_) hA
  rcases (show j = 0 ∨ j = 1 ∨ j = 2 ∨ j = 3 by omega) with rfl | rfl | rfl | rfl
  · exact va_eqt (hs (.eq (.elem (tLo) (.int 0)) (.int 0)) (by decide +kernel))
  · exact va_eqt (hs (.eq (.elem (tLo) (.int 1)) (.int 0)) (by decide +kernel))
  · exact va_eqt (hs (.eq (.elem (tLo) (.int 2)) (.int 5)) (by decide +kernel))
  · exact va_eqt (hs (.eq (.elem (tLo) (.int 3)) (.int 0)) (by decide +kernel))
theorem x_hi {args : Array Value} {s : State} {A : Nat → Prop} (hv : NarA args s) (hA : ∀ a : Nat, a < s.heap.size → ¬ A a) : ∃ t : Nat, (tHi).eval args s none [] s = some (.ref t) ∧ va_T .int t 4 (exB [3, 20, 200, 100]) A s s.heap := by
  have hs := flat_of_before _ hv
  refine va_Tof (args := args) (by decide) (hs _ (by decide +kernel)) (va_eqt (hs (.eq (.length (tHi)) (.int 4)) (by decide +kernel))) (fun j hj => ?_) hA
  rcases (show j = 0 ∨ j = 1 ∨ j = 2 ∨ j = 3 by omega) with rfl | rfl | rfl | rfl
  · exact va_eqt (hs (.eq (.elem (tHi) (.int 0)) (.int 3)) (by decide +kernel))
  · exact va_eqt (hs (.eq (.elem (tHi) (.int 1)) (.int 20)) (by decide +kernel))
  · exact va_eqt (hs (.eq (.elem (tHi) (.int 2)) (.int 200)) (by decide +kernel))
  · exact va_eqt (hs (.eq (.elem (tHi) (.int 3)) (.int 100)) (by decide +kernel))
theorem x_sw {args : Array Value} {s : State} {A : Nat → Prop} (hv : NarA args s) (hA : ∀ a : Nat, a < s.heap.size → ¬ A a) : ∃ t : Nat, (tSw).eval args s none [] s = some (.ref t) ∧ va_T .int t 6 (exB [0, 1, 2, 3, 4, 5]) A s s.heap := by
  have hs := flat_of_before _ hv
  refine va_Tof (args := args) (by decide) (hs _ (by decide +kernel)) (va_eqt (hs (.eq (.length (tSw)) (.int 6)) (by decide +kernel))) (fun j hj => ?_) hA
  rcases (show j = 0 ∨ j = 1 ∨ j = 2 ∨ j = 3 ∨ j = 4 ∨ j = 5 by omega) with rfl | rfl | rfl | rfl | rfl | rfl
  · exact va_eqt (hs (.eq (.elem (tSw) (.int 0)) (.int 0)) (by decide +kernel))
  · exact va_eqt (hs (.eq (.elem (tSw) (.int 1)) (.int 1)) (by decide +kernel))
  · exact va_eqt (hs (.eq (.elem (tSw) (.int 2)) (.int 2)) (by decide +kernel))
  · exact va_eqt (hs (.eq (.elem (tSw) (.int 3)) (.int 3)) (by decide +kernel))
  · exact va_eqt (hs (.eq (.elem (tSw) (.int 4)) (.int 4)) (by decide +kernel))
  · exact va_eqt (hs (.eq (.elem (tSw) (.int 5)) (.int 5)) (by decide +kernel))
theorem x_ws {args : Array Value} {s : State} {A : Nat → Prop} {w0 w1 w2 w3 w4 w5 : Nat} (hv : NarA args s) (hA : ∀ a : Nat, a < s.heap.size → ¬ A a) (e0 : (tWd "UNKNOWN").eval args s none [] s = some (.ref w0)) (e1 : (tWd "PLATE").eval args s none [] s = some (.ref w1)) (e2 : (tWd "READ").eval args s none [] s = some (.ref w2)) (e3 : (tWd "CANCEL").eval args s none [] s = some (.ref w3)) (e4 : (tWd "SET").eval args s none [] s = some (.ref w4)) (e5 : (tWd "TICKS").eval args s none [] s = some (.ref w5)) : ∃ t : Nat, tWS.eval args s none [] s = some (.ref t) ∧ va_T (.object "PlateArm$Word") t 6 (fun j => .ref ([w0, w1, w2, w3, w4, w5].getD j 0)) A s s.heap := by
  have hs := flat_of_before _ hv
  refine va_Tof (args := args) (by decide) (hs _ (by decide +kernel)) (va_eqt (hs (.eq (.length tWS) (.int 6)) (by decide +kernel))) (fun j hj => ?_) hA
  rcases (show j = 0 ∨ j = 1 ∨ j = 2 ∨ j = 3 ∨ j = 4 ∨ j = 5 by omega) with rfl | rfl | rfl | rfl | rfl | rfl
  · exact va_eqv (hs (.eq (.elem tWS (.int 0)) (tWd "UNKNOWN")) (by decide +kernel)) e0
  · exact va_eqv (hs (.eq (.elem tWS (.int 1)) (tWd "PLATE")) (by decide +kernel)) e1
  · exact va_eqv (hs (.eq (.elem tWS (.int 2)) (tWd "READ")) (by decide +kernel)) e2
  · exact va_eqv (hs (.eq (.elem tWS (.int 3)) (tWd "CANCEL")) (by decide +kernel)) e3
  · exact va_eqv (hs (.eq (.elem tWS (.int 4)) (tWd "SET")) (by decide +kernel)) e4
  · exact va_eqv (hs (.eq (.elem tWS (.int 5)) (tWd "TICKS")) (by decide +kernel)) e5
theorem x_inj {args : Array Value} {s : State} {w0 w1 w2 w3 w4 w5 : Nat} (hv : NarA args s) (e0 : (tWd "UNKNOWN").eval args s none [] s = some (.ref w0)) (e1 : (tWd "PLATE").eval args s none [] s = some (.ref w1)) (e2 : (tWd "READ").eval args s none [] s = some (.ref w2)) (e3 : (tWd "CANCEL").eval args s none [] s = some (.ref w3)) (e4 : (tWd "SET").eval args s none [] s = some (.ref w4)) (e5 : (tWd "TICKS").eval args s none [] s = some (.ref w5)) : ∀ i j, i < 6 → j < 6 → [w0, w1, w2, w3, w4, w5].getD i 0 = [w0, w1, w2, w3, w4, w5].getD j 0 → i = j := by
  have hs := flat_of_before _ hv
  have n0_1 : ¬ w0 = w1 := va_neR (hs (.not (.eq (tWd "UNKNOWN") (tWd "PLATE"))) (by decide +kernel)) e0 e1
  have n0_2 : ¬ w0 = w2 := va_neR (hs (.not (.eq (tWd "UNKNOWN") (tWd "READ"))) (by decide +kernel)) e0 e2
  have n1_2 : ¬ w1 = w2 := va_neR (hs (.not (.eq (tWd "PLATE") (tWd "READ"))) (by decide +kernel)) e1 e2
  have n0_3 : ¬ w0 = w3 := va_neR (hs (.not (.eq (tWd "UNKNOWN") (tWd "CANCEL"))) (by decide +kernel)) e0 e3
  have n1_3 : ¬ w1 = w3 := va_neR (hs (.not (.eq (tWd "PLATE") (tWd "CANCEL"))) (by decide +kernel)) e1 e3
  have n2_3 : ¬ w2 = w3 := va_neR (hs (.not (.eq (tWd "READ") (tWd "CANCEL"))) (by decide +kernel)) e2 e3
  have n0_4 : ¬ w0 = w4 := va_neR (hs (.not (.eq (tWd "UNKNOWN") (tWd "SET"))) (by decide +kernel)) e0 e4
  have n1_4 : ¬ w1 = w4 := va_neR (hs (.not (.eq (tWd "PLATE") (tWd "SET"))) (by decide +kernel)) e1 e4
  have n2_4 : ¬ w2 = w4 := va_neR (hs (.not (.eq (tWd "READ") (tWd "SET"))) (by decide +kernel)) e2 e4
  have n3_4 : ¬ w3 = w4 := va_neR (hs (.not (.eq (tWd "CANCEL") (tWd "SET"))) (by decide +kernel)) e3 e4
  have n0_5 : ¬ w0 = w5 := va_neR (hs (.not (.eq (tWd "UNKNOWN") (tWd "TICKS"))) (by decide +kernel)) e0 e5
  have n1_5 : ¬ w1 = w5 := va_neR (hs (.not (.eq (tWd "PLATE") (tWd "TICKS"))) (by decide +kernel)) e1 e5
  have n2_5 : ¬ w2 = w5 := va_neR (hs (.not (.eq (tWd "READ") (tWd "TICKS"))) (by decide +kernel)) e2 e5
  have n3_5 : ¬ w3 = w5 := va_neR (hs (.not (.eq (tWd "CANCEL") (tWd "TICKS"))) (by decide +kernel)) e3 e5
  have n4_5 : ¬ w4 = w5 := va_neR (hs (.not (.eq (tWd "SET") (tWd "TICKS"))) (by decide +kernel)) e4 e5
  intro i j hi hj e
  rcases (show i = 0 ∨ i = 1 ∨ i = 2 ∨ i = 3 ∨ i = 4 ∨ i = 5 by omega) with rfl | rfl | rfl | rfl | rfl | rfl <;> rcases (show j = 0 ∨ j = 1 ∨ j = 2 ∨ j = 3 ∨ j = 4 ∨ j = 5 by omega) with rfl | rfl | rfl | rfl | rfl | rfl
  · exact rfl
  · exact absurd e n0_1
  · exact absurd e n0_2
  · exact absurd e n0_3
  · exact absurd e n0_4
  · exact absurd e n0_5
  · exact absurd e.symm n0_1
  · exact rfl
  · exact absurd e n1_2
  · exact absurd e n1_3
  · exact absurd e n1_4
  · exact absurd e n1_5
  · exact absurd e.symm n0_2
  · exact absurd e.symm n1_2
  · exact rfl
  · exact absurd e n2_3
  · exact absurd e n2_4
  · exact absurd e n2_5
  · exact absurd e.symm n0_3
  · exact absurd e.symm n1_3
  · exact absurd e.symm n2_3
  · exact rfl
  · exact absurd e n3_4
  · exact absurd e n3_5
  · exact absurd e.symm n0_4
  · exact absurd e.symm n1_4
  · exact absurd e.symm n2_4
  · exact absurd e.symm n3_4
  · exact rfl
  · exact absurd e n4_5
  · exact absurd e.symm n0_5
  · exact absurd e.symm n1_5
  · exact absurd e.symm n2_5
  · exact absurd e.symm n3_5
  · exact absurd e.symm n4_5
  · exact rfl
theorem x_ef0 {args : Array Value} {s : State} {A : Nat → Prop} {w t : Nat} (hv : NarA args s) (hA : ∀ a : Nat, a < s.heap.size → ¬ A a) (e : (tWd "UNKNOWN").eval args s none [] s = some (.ref w)) (et : (tSt 50).eval args s none [] s = some (.ref t)) : va_OF "java/lang/Enum" "ordinal" "I" (.int 0) w A s s.heap ∧ va_OF "PlateArm$Word" "letters" "Ljava/lang/String;" (.ref t) w A s s.heap ∧ va_OF "PlateArm$Word" "numbers" "I" (.int 0) w A s s.heap := by
  have hs := flat_of_before _ hv
  exact ⟨va_OFof e (va_eqt (hs (.eq (.field (tWd "UNKNOWN") "java/lang/Enum" "ordinal" "I") (.int 0)) (by decide +kernel))) hA, va_OFof e (va_eqv (hs (.eq (.field (tWd "UNKNOWN") "PlateArm$Word" "letters" "Ljava/lang/String;") (tSt 50)) (by decide +kernel)) et) hA, va_OFof e (va_eqt (hs (.eq (.field (tWd "UNKNOWN") "PlateArm$Word" "numbers" "I") (.int 0)) (by decide +kernel))) hA⟩
theorem x_es0 {args : Array Value} {s : State} {A : Nat → Prop} {t y : Nat} (hv : NarA args s) (hA : ∀ a : Nat, a < s.heap.size → ¬ A a) (et : (tSt 50).eval args s none [] s = some (.ref t)) (ey : (tBy 50).eval args s none [] s = some (.ref y)) : va_OF "java/lang/String" "coder" "B" (.int 0) t A s s.heap ∧ va_OF "java/lang/String" "value" "[B" (.ref y) t A s s.heap := by
  have hs := flat_of_before _ hv
  exact ⟨va_OFof et (va_eqt (hs (.eq (.field (tSt 50) "java/lang/String" "coder" "B") (.int 0)) (by decide +kernel))) hA, va_OFof et ey hA⟩
theorem x_ef1 {args : Array Value} {s : State} {A : Nat → Prop} {w t : Nat} (hv : NarA args s) (hA : ∀ a : Nat, a < s.heap.size → ¬ A a) (e : (tWd "PLATE").eval args s none [] s = some (.ref w)) (et : (tSt 56).eval args s none [] s = some (.ref t)) : va_OF "java/lang/Enum" "ordinal" "I" (.int 1) w A s s.heap ∧ va_OF "PlateArm$Word" "letters" "Ljava/lang/String;" (.ref t) w A s s.heap ∧ va_OF "PlateArm$Word" "numbers" "I" (.int 2) w A s s.heap := by
  have hs := flat_of_before _ hv
  exact ⟨va_OFof e (va_eqt (hs (.eq (.field (tWd "PLATE") "java/lang/Enum" "ordinal" "I") (.int 1)) (by decide +kernel))) hA, va_OFof e (va_eqv (hs (.eq (.field (tWd "PLATE") "PlateArm$Word" "letters" "Ljava/lang/String;") (tSt 56)) (by decide +kernel)) et) hA, va_OFof e (va_eqt (hs (.eq (.field (tWd "PLATE") "PlateArm$Word" "numbers" "I") (.int 2)) (by decide +kernel))) hA⟩
theorem x_es1 {args : Array Value} {s : State} {A : Nat → Prop} {t y : Nat} (hv : NarA args s) (hA : ∀ a : Nat, a < s.heap.size → ¬ A a) (et : (tSt 56).eval args s none [] s = some (.ref t)) (ey : (tBy 56).eval args s none [] s = some (.ref y)) : va_OF "java/lang/String" "coder" "B" (.int 0) t A s s.heap ∧ va_OF "java/lang/String" "value" "[B" (.ref y) t A s s.heap := by
  have hs := flat_of_before _ hv
  exact ⟨va_OFof et (va_eqt (hs (.eq (.field (tSt 56) "java/lang/String" "coder" "B") (.int 0)) (by decide +kernel))) hA, va_OFof et ey hA⟩
theorem x_ef2 {args : Array Value} {s : State} {A : Nat → Prop} {w t : Nat} (hv : NarA args s) (hA : ∀ a : Nat, a < s.heap.size → ¬ A a) (e : (tWd "READ").eval args s none [] s = some (.ref w)) (et : (tSt 59).eval args s none [] s = some (.ref t)) : va_OF "java/lang/Enum" "ordinal" "I" (.int 2) w A s s.heap ∧ va_OF "PlateArm$Word" "letters" "Ljava/lang/String;" (.ref t) w A s s.heap ∧ va_OF "PlateArm$Word" "numbers" "I" (.int 3) w A s s.heap := by
  have hs := flat_of_before _ hv
  exact ⟨va_OFof e (va_eqt (hs (.eq (.field (tWd "READ") "java/lang/Enum" "ordinal" "I") (.int 2)) (by decide +kernel))) hA, va_OFof e (va_eqv (hs (.eq (.field (tWd "READ") "PlateArm$Word" "letters" "Ljava/lang/String;") (tSt 59)) (by decide +kernel)) et) hA, va_OFof e (va_eqt (hs (.eq (.field (tWd "READ") "PlateArm$Word" "numbers" "I") (.int 3)) (by decide +kernel))) hA⟩
theorem x_es2 {args : Array Value} {s : State} {A : Nat → Prop} {t y : Nat} (hv : NarA args s) (hA : ∀ a : Nat, a < s.heap.size → ¬ A a) (et : (tSt 59).eval args s none [] s = some (.ref t)) (ey : (tBy 59).eval args s none [] s = some (.ref y)) : va_OF "java/lang/String" "coder" "B" (.int 0) t A s s.heap ∧ va_OF "java/lang/String" "value" "[B" (.ref y) t A s s.heap := by
  have hs := flat_of_before _ hv
  exact ⟨va_OFof et (va_eqt (hs (.eq (.field (tSt 59) "java/lang/String" "coder" "B") (.int 0)) (by decide +kernel))) hA, va_OFof et ey hA⟩
theorem x_ef3 {args : Array Value} {s : State} {A : Nat → Prop} {w t : Nat} (hv : NarA args s) (hA : ∀ a : Nat, a < s.heap.size → ¬ A a) (e : (tWd "CANCEL").eval args s none [] s = some (.ref w)) (et : (tSt 62).eval args s none [] s = some (.ref t)) : va_OF "java/lang/Enum" "ordinal" "I" (.int 3) w A s s.heap ∧ va_OF "PlateArm$Word" "letters" "Ljava/lang/String;" (.ref t) w A s s.heap ∧ va_OF "PlateArm$Word" "numbers" "I" (.int 1) w A s s.heap := by
  have hs := flat_of_before _ hv
  exact ⟨va_OFof e (va_eqt (hs (.eq (.field (tWd "CANCEL") "java/lang/Enum" "ordinal" "I") (.int 3)) (by decide +kernel))) hA, va_OFof e (va_eqv (hs (.eq (.field (tWd "CANCEL") "PlateArm$Word" "letters" "Ljava/lang/String;") (tSt 62)) (by decide +kernel)) et) hA, va_OFof e (va_eqt (hs (.eq (.field (tWd "CANCEL") "PlateArm$Word" "numbers" "I") (.int 1)) (by decide +kernel))) hA⟩
theorem x_es3 {args : Array Value} {s : State} {A : Nat → Prop} {t y : Nat} (hv : NarA args s) (hA : ∀ a : Nat, a < s.heap.size → ¬ A a) (et : (tSt 62).eval args s none [] s = some (.ref t)) (ey : (tBy 62).eval args s none [] s = some (.ref y)) : va_OF "java/lang/String" "coder" "B" (.int 0) t A s s.heap ∧ va_OF "java/lang/String" "value" "[B" (.ref y) t A s s.heap := by
  have hs := flat_of_before _ hv
  exact ⟨va_OFof et (va_eqt (hs (.eq (.field (tSt 62) "java/lang/String" "coder" "B") (.int 0)) (by decide +kernel))) hA, va_OFof et ey hA⟩
theorem x_ef4 {args : Array Value} {s : State} {A : Nat → Prop} {w t : Nat} (hv : NarA args s) (hA : ∀ a : Nat, a < s.heap.size → ¬ A a) (e : (tWd "SET").eval args s none [] s = some (.ref w)) (et : (tSt 65).eval args s none [] s = some (.ref t)) : va_OF "java/lang/Enum" "ordinal" "I" (.int 4) w A s s.heap ∧ va_OF "PlateArm$Word" "letters" "Ljava/lang/String;" (.ref t) w A s s.heap ∧ va_OF "PlateArm$Word" "numbers" "I" (.int 2) w A s s.heap := by
  have hs := flat_of_before _ hv
  exact ⟨va_OFof e (va_eqt (hs (.eq (.field (tWd "SET") "java/lang/Enum" "ordinal" "I") (.int 4)) (by decide +kernel))) hA, va_OFof e (va_eqv (hs (.eq (.field (tWd "SET") "PlateArm$Word" "letters" "Ljava/lang/String;") (tSt 65)) (by decide +kernel)) et) hA, va_OFof e (va_eqt (hs (.eq (.field (tWd "SET") "PlateArm$Word" "numbers" "I") (.int 2)) (by decide +kernel))) hA⟩
theorem x_es4 {args : Array Value} {s : State} {A : Nat → Prop} {t y : Nat} (hv : NarA args s) (hA : ∀ a : Nat, a < s.heap.size → ¬ A a) (et : (tSt 65).eval args s none [] s = some (.ref t)) (ey : (tBy 65).eval args s none [] s = some (.ref y)) : va_OF "java/lang/String" "coder" "B" (.int 0) t A s s.heap ∧ va_OF "java/lang/String" "value" "[B" (.ref y) t A s s.heap := by
  have hs := flat_of_before _ hv
  exact ⟨va_OFof et (va_eqt (hs (.eq (.field (tSt 65) "java/lang/String" "coder" "B") (.int 0)) (by decide +kernel))) hA, va_OFof et ey hA⟩
theorem x_ef5 {args : Array Value} {s : State} {A : Nat → Prop} {w t : Nat} (hv : NarA args s) (hA : ∀ a : Nat, a < s.heap.size → ¬ A a) (e : (tWd "TICKS").eval args s none [] s = some (.ref w)) (et : (tSt 68).eval args s none [] s = some (.ref t)) : va_OF "java/lang/Enum" "ordinal" "I" (.int 5) w A s s.heap ∧ va_OF "PlateArm$Word" "letters" "Ljava/lang/String;" (.ref t) w A s s.heap ∧ va_OF "PlateArm$Word" "numbers" "I" (.int 1) w A s s.heap := by
  have hs := flat_of_before _ hv
  exact ⟨va_OFof e (va_eqt (hs (.eq (.field (tWd "TICKS") "java/lang/Enum" "ordinal" "I") (.int 5)) (by decide +kernel))) hA, va_OFof e (va_eqv (hs (.eq (.field (tWd "TICKS") "PlateArm$Word" "letters" "Ljava/lang/String;") (tSt 68)) (by decide +kernel)) et) hA, va_OFof e (va_eqt (hs (.eq (.field (tWd "TICKS") "PlateArm$Word" "numbers" "I") (.int 1)) (by decide +kernel))) hA⟩
theorem x_es5 {args : Array Value} {s : State} {A : Nat → Prop} {t y : Nat} (hv : NarA args s) (hA : ∀ a : Nat, a < s.heap.size → ¬ A a) (et : (tSt 68).eval args s none [] s = some (.ref t)) (ey : (tBy 68).eval args s none [] s = some (.ref y)) : va_OF "java/lang/String" "coder" "B" (.int 0) t A s s.heap ∧ va_OF "java/lang/String" "value" "[B" (.ref y) t A s s.heap := by
  have hs := flat_of_before _ hv
  exact ⟨va_OFof et (va_eqt (hs (.eq (.field (tSt 68) "java/lang/String" "coder" "B") (.int 0)) (by decide +kernel))) hA, va_OFof et ey hA⟩
