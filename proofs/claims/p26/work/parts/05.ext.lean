/-! ===== the words that every contract takes, and what stood before the launch's call ===== -/
theorem WG_in {ws : List Cond} (h : ∀ w ∈ ws, w ∈ WG) : GoodIn WG ws := fun w hw => ⟨h w hw, good_of_word (List.mem_filter.mp (h w hw)).2⟩
def EWn : List (String × Nat × MethodName × String) := [("PlateArm", 9, yX6_init, "PlateArm"), ("PlateArm$State", 24, yX1_init, "PlateArm"), ("PlateArm$State", 31, yX5_init, "PlateArm"), ("PlateArm$State", 38, yX4_init, "PlateArm"), ("PlateArm$State", 45, yX7_init, "PlateArm"), ("PlateArm", 30, yX3_init, "PlateArm"), ("PlateArm", 37, yX2_init, "PlateArm")]
def EWc : List (String × String) := [("java/lang/IllegalArgumentException", "java/lang/IllegalArgumentException"), ("java/lang/IllegalStateException", "java/lang/IllegalStateException"), ("java/lang/IndexOutOfBoundsException", "java/lang/IndexOutOfBoundsException")]
def ENc : List (String × String) := [("java/lang/IllegalStateException", "java/lang/IllegalArgumentException"), ("java/lang/IllegalArgumentException", "java/lang/IndexOutOfBoundsException")]
def EWd : List MethodName := [⟨"java/lang/RuntimeException", "<init>", "()V"⟩, ⟨"java/lang/Exception", "<init>", "()V"⟩, ⟨"java/lang/Throwable", "<init>", "()V"⟩]
def EZ : List (String × String × String × Value) := [("PlateArm$Word", "UNKNOWN", "LPlateArm$Word;", .float 0), ("PlateArm", "LOWEST_SETTING", "[I", .float 18), ("PlateArm", "HIGHEST_SETTING", "[I", .float 19)]
def exB (l : List Int32) : Nat → Value := fun j => .int (l.getD j 0)
def ET : List (Nat × FieldType × Nat × (Nat → Value)) := [(18, .int, 4, exB [0, 0, 5, 0]), (19, .int, 4, exB [3, 20, 200, 100])]
def EO : List (Nat × String) := [(0, "PlateArm$Word")]
def EF : List (Nat × String × String × String × Value) := []
/-- a value of the things from before -/
def xe (ex : Nat → Nat) : Value → Value
  | .float u => .ref (ex u.toNat)
  | v => v
def nref : Value → Bool
  | .ref _ => false
  | _ => true
theorem xe_xv {ad ex : Nat → Nat} {v : Value} (h : nref v = true) : xv ad ex v = xe ex v := by cases v <;> first | rfl | cases h
theorem nref_cl {n : Nat} {v : Value} (h : nref v = true) : vcl n v := by cases v <;> first | exact trivial | cases h
theorem EZ_nref : ∀ q ∈ EZ, nref q.2.2.2 = true := by simp [EZ, nref]
theorem EF_nref : ∀ q ∈ EF, nref q.2.2.2.2 = true := by simp [EF]
theorem ET_nref : ∀ q ∈ ET, ∀ j, nref (q.2.2.2 j) = true := by simp [ET, exB, nref]
def XE (ex : Nat → Nat) (A : Nat → Prop) (U : State) (H : Heap) : Prop :=
  (∀ q ∈ EZ, va_Z q.1 q.2.1 q.2.2.1 (xe ex q.2.2.2) A U H) ∧ (∀ q ∈ ET, va_T q.2.1 (ex q.1) q.2.2.1 (fun j => xe ex (q.2.2.2 j)) A U H) ∧ (∀ q ∈ EO, va_O q.2 (ex q.1) A U H) ∧ (∀ q ∈ EF, va_OF q.2.1 q.2.2.1 q.2.2.2.1 (xe ex q.2.2.2.2) (ex q.1) A U H) ∧
  (vx_Zq Bundle.tN "UNASSIGNED_STACK" Bundle.steD A U H ∧ vx_Zq Bundle.tN "SUPPRESSED_SENTINEL" Bundle.listD A U H) ∧ (∀ i j, i < 1 → j < 1 → ex i = ex j → i = j) ∧
  (∀ q ∈ EWn, va_Nw (.methodLinkNest q.1 q.2.1 q.2.2.1 q.2.2.2) U) ∧ (∀ q ∈ EWc, va_Nw (.castable q.1 q.2) U) ∧ (∀ q ∈ ENc, va_Nc q.1 q.2 U) ∧ va_AO "PlateArm$State" U ∧ va_AOA .int U ∧ (∀ x ∈ EWd, va_Nw (.declares x) U) ∧
  (∃ (n : Nat) (f : Nat → Int32), n ≤ 260 ∧ va_T .int (ex 23) n (fun j => .int (f j)) A U H)
theorem va_AOA.moved {ty : FieldType} {u U : State} (hvm : u.vm.Alike U.vm) (h : va_AOA ty u) : va_AOA ty U := by
  have h1 : (Cond.arrayOver (.array ty)).before #[] (u.setVm U.vm) = true := by rw [Cond.arrayOver_setVmC hvm]; exact h
  exact h1
theorem XE.warm {ex : Nat → Nat} {A : Nat → Prop} {u U : State} {H : Heap} (hW : u.WarmedH U.vm) (h : XE ex A u H) : XE ex A U H := by
  obtain ⟨h1, h2, h3, h4, ⟨h5, h6⟩, h7, h8, h9, h10, h11, h12, h13, h14⟩ := h
  exact ⟨fun q hq => (h1 q hq).moved hW.alike, fun q hq => (h2 q hq).moved hW.alike, fun q hq => (h3 q hq).moved hW.alike, fun q hq => (h4 q hq).moved hW.alike, ⟨h5.moved hW.alike, h6.moved hW.alike⟩, h7, fun q hq => va_Nw.warmM hW (h8 q hq), fun q hq => va_Nw.warmC hW (h9 q hq), fun q hq => va_Nc.moved hW.alike (h10 q hq), h11.moved hW.alike, h12.moved hW.alike, fun q hq => va_Nw.warmD hW (h13 q hq), (by obtain ⟨n, f, h1, h2⟩ := h14; exact ⟨n, f, h1, h2.moved hW.alike⟩)⟩
theorem XE.kept {ex : Nat → Nat} {A : Nat → Prop} {U : State} {H H1 : Heap} (h : XE ex A U H) (hq : ∀ a : Nat, a < H.size → ¬ A a → H1[a]? = H[a]?) : XE ex A U H1 := by
  obtain ⟨h1, h2, h3, h4, ⟨h5, h6⟩, h7, h8, h9, h10, h11, h12, h13, h14⟩ := h
  exact ⟨fun q hq2 => (h1 q hq2).kept hq, fun q hq2 => (h2 q hq2).kept hq, fun q hq2 => (h3 q hq2).kept hq, fun q hq2 => (h4 q hq2).kept hq, ⟨h5.kept hq, h6.kept hq⟩, h7, h8, h9, h10, h11, h12, h13, (by obtain ⟨n, f, h1, h2⟩ := h14; exact ⟨n, f, h1, h2.kept hq⟩)⟩
theorem XE.narrow {ex : Nat → Nat} {A B : Nat → Prop} {U : State} {H : Heap} (h : XE ex A U H) (hAB : ∀ q, B q → A q) : XE ex B U H := by
  obtain ⟨h1, h2, h3, h4, ⟨h5, h6⟩, h7, h8, h9, h10, h11, h12, h13, h14⟩ := h
  exact ⟨fun q hq2 => (h1 q hq2).narrow hAB, fun q hq2 => (h2 q hq2).narrow hAB, fun q hq2 => (h3 q hq2).narrow hAB, fun q hq2 => (h4 q hq2).narrow hAB, ⟨h5.narrow hAB, h6.narrow hAB⟩, h7, h8, h9, h10, h11, h12, h13, (by obtain ⟨n, f, h1, h2⟩ := h14; exact ⟨n, f, h1, h2.narrow hAB⟩)⟩
theorem XE.same {ex : Nat → Nat} {A : Nat → Prop} {u U : State} {H : Heap} (hv : U.vm = u.vm) (h : XE ex A u H) : XE ex A U H := XE.warm (by rw [hv]; exact State.WarmedH.refl u) h
