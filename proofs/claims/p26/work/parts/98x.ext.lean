/-! ===== what stood before the law's call ===== -/
theorem va_OFof {args : Array Value} {s : State} {o n d : String} {v : Value} {t : Nat} {A : Nat → Prop} {tm : Term} (hev : tm.eval args s none [] s = some (.ref t)) (hv : (Term.field tm o n d).eval args s none [] s = some v) (hA : ∀ a : Nat, a < s.heap.size → ¬ A a) : va_OF o n d v t A s s.heap := by
  cases hfo : s.fieldFound? o n d with
  | none =>
    rw [va_fe hev] at hv
    simp [State.fieldOf?, State.fieldNamed?, hfo] at hv
  | some x =>
    obtain ⟨cf, k, fi, f⟩ := x
    obtain ⟨g1, cell, g2, g3, -, -, g6⟩ := Term.field_spec hfo hev hv
    exact ⟨cf, k, fi, f, cell, hfo, g1, g2, g3, g6, hA _ (Array.getElem?_eq_some_iff.mp g2).1⟩
theorem aOA_spec {args : Array Value} {s : State} {ty : FieldType} (h : (Cond.arrayOver (.array ty)).before args s = true) :
    ∃ comp c k, s.vm.classes[c]? = some k ∧ k.kind = .array comp (.array ty) ∧ s.vm.findClass ("[" ++ (FieldType.array ty).toString) = some c := by
  simp only [Cond.before, Cond.holds, Cond.value, beq_iff_eq] at h
  cases hc : s.vm.findClass (FieldType.array ty).toString with
  | none => simp [hc] at h
  | some comp =>
    simp only [hc, Option.bind_some, Option.bind_eq_some_iff, Option.map_eq_some_iff] at h
    obtain ⟨c, hi, k, hk, hb⟩ := h
    obtain ⟨hlt, hp, -⟩ := Array.findIdx?_eq_some_iff_getElem.mp hi
    have hkk : s.vm.classes[c] = k := (Array.getElem?_eq_some_iff.mp hk).2
    rw [hkk] at hp
    cases hkind : k.kind with
    | array component t2 =>
      rw [hkind] at hb hp
      simp at hb hp
      exact ⟨comp, c, k, hk, by rw [hkind, hp, hb.1], hb.2⟩
    | _ => rw [hkind] at hb; simp at hb
theorem va_Tg {ty : FieldType} {t N : Nat} {f g : Nat → Value} {A : Nat → Prop} {U : State} {H : Heap} (h : va_T ty t N f A U H) (e : ∀ j, j < N → f j = g j) : va_T ty t N g A U H := by
  obtain ⟨cell, h1, h2, h3, h4, h5, h6, h7⟩ := h
  exact ⟨cell, h1, h2, h3, h4, h5, fun j hj => by rw [← e j hj]; exact h6 j hj, h7⟩
theorem va_ExR {args : Array Value} {s : State} {t : Term} {nm : String} (h : (Cond.exactly t nm).before args s = true) : ∃ a : Nat, t.eval args s none [] s = some (.ref a) := by
  obtain ⟨a, c, cA, kA, q1, -⟩ := Cond.exactly_spec (args := args) (first := s) (o := none) (s := s) (idx := []) (t := t) (cls := nm) h
  exact ⟨a, q1⟩
abbrev tWd (n : String) : Term := .static "PlateArm$Word" n "LPlateArm$Word;"
abbrev tLo : Term := .static "PlateArm" "LOWEST_SETTING" "[I"
abbrev tHi : Term := .static "PlateArm" "HIGHEST_SETTING" "[I"
def NarA (args : Array Value) (s : State) : Prop := (Jvm.Cond.and given_1 narrow_1).before args s = true
theorem tin {args : Array Value} {s : State} {w : Cond} (ht : ∀ w ∈ lw_tbl, w.before args s = true) (i : Nat) (h : lw_tbl[i]? = some w) : w.before args s = true := ht w (List.mem_of_getElem? h)
theorem x_lo {args : Array Value} {s : State} {A : Nat → Prop} (hv : NarA args s) (hA : ∀ a : Nat, a < s.heap.size → ¬ A a) : ∃ t : Nat, (tLo).eval args s none [] s = some (.ref t) ∧ va_T .int t 4 (exB [0, 0, 5, 0]) A s s.heap := by
  have hs := flat_of_before _ hv
  refine va_Tof (args := args) (by decide) (hs _ (by decide +kernel)) (va_eqt (hs (.eq (.length (tLo)) (.int 4)) (by decide +kernel))) (fun j hj => ?_) hA
  rcases (show j = 0 ∨ j = 1 ∨ j = 2 ∨ j = 3 by omega) with rfl | rfl | rfl | rfl
  · exact va_eqt (hs (.eq (.elem (tLo) (.int 0)) (.int 0)) (by decide +kernel))
  · exact va_eqt (hs (.eq (.elem (tLo) (.int 1)) (.int 0)) (by decide +kernel))
  · exact va_eqt (hs (.eq (.elem (tLo) (.int 2)) (.int 5)) (by decide +kernel))
  · exact va_eqt (hs (.eq (.elem (tLo) (.int 3)) (.int 0)) (by decide +kernel))
theorem x_hi {args : Array Value} {s : State} {A : Nat → Prop} (hv : NarA args s) (hA : ∀ a : Nat, a < s.heap.size → ¬ A a) : ∃ t : Nat, (tHi).eval args s none [] s = some (.ref t) ∧ va_T .int t 4 (exB [3, 20, 200, 100]) A s s.heap := by
  have hs := flat_of_before _ hv
  refine va_Tof (args := args) (by decide) (hs _ (by decide +kernel)) (va_eqt (hs (.eq (.length (tHi)) (.int 4)) (by decide +kernel))) (fun j hj => ?_) hA
  rcases (show j = 0 ∨ j = 1 ∨ j = 2 ∨ j = 3 by omega) with rfl | rfl | rfl | rfl
  · exact va_eqt (hs (.eq (.elem (tHi) (.int 0)) (.int 3)) (by decide +kernel))
  · exact va_eqt (hs (.eq (.elem (tHi) (.int 1)) (.int 20)) (by decide +kernel))
  · exact va_eqt (hs (.eq (.elem (tHi) (.int 2)) (.int 200)) (by decide +kernel))
  · exact va_eqt (hs (.eq (.elem (tHi) (.int 3)) (.int 100)) (by decide +kernel))
