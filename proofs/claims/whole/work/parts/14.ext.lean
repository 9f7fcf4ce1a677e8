/-! ===== the fields of the things from before ===== -/
theorem xg_letters : ∀ (j : Nat) (v : Value), ([.float 6, .float 7, .float 8, .float 9, .float 10, .float 11] : List Value)[j]? = some v → (0 + j, "PlateArm$Word", "letters", "Ljava/lang/String;", v) ∈ EF := by
  intro j v h
  match j, h with
  | 0, h => cases h; simp [EF, EFw, EFs]
  | 1, h => cases h; simp [EF, EFw, EFs]
  | 2, h => cases h; simp [EF, EFw, EFs]
  | 3, h => cases h; simp [EF, EFw, EFs]
  | 4, h => cases h; simp [EF, EFw, EFs]
  | 5, h => cases h; simp [EF, EFw, EFs]
  | k + 6, h => simp at h
theorem xg_numbers : ∀ (j : Nat) (v : Value), ([.int 0, .int 2, .int 3, .int 1, .int 2, .int 1] : List Value)[j]? = some v → (0 + j, "PlateArm$Word", "numbers", "I", v) ∈ EF := by
  intro j v h
  match j, h with
  | 0, h => cases h; simp [EF, EFw, EFs]
  | 1, h => cases h; simp [EF, EFw, EFs]
  | 2, h => cases h; simp [EF, EFw, EFs]
  | 3, h => cases h; simp [EF, EFw, EFs]
  | 4, h => cases h; simp [EF, EFw, EFs]
  | 5, h => cases h; simp [EF, EFw, EFs]
  | k + 6, h => simp at h
theorem xg_ordinal : ∀ (j : Nat) (v : Value), ([.int 0, .int 1, .int 2, .int 3, .int 4, .int 5] : List Value)[j]? = some v → (0 + j, "java/lang/Enum", "ordinal", "I", v) ∈ EF := by
  intro j v h
  match j, h with
  | 0, h => cases h; simp [EF, EFw, EFs]
  | 1, h => cases h; simp [EF, EFw, EFs]
  | 2, h => cases h; simp [EF, EFw, EFs]
  | 3, h => cases h; simp [EF, EFw, EFs]
  | 4, h => cases h; simp [EF, EFw, EFs]
  | 5, h => cases h; simp [EF, EFw, EFs]
  | k + 6, h => simp at h
theorem xg_coder : ∀ (j : Nat) (v : Value), ([.int 0, .int 0, .int 0, .int 0, .int 0, .int 0] : List Value)[j]? = some v → (6 + j, "java/lang/String", "coder", "B", v) ∈ EF := by
  intro j v h
  match j, h with
  | 0, h => cases h; simp [EF, EFw, EFs]
  | 1, h => cases h; simp [EF, EFw, EFs]
  | 2, h => cases h; simp [EF, EFw, EFs]
  | 3, h => cases h; simp [EF, EFw, EFs]
  | 4, h => cases h; simp [EF, EFw, EFs]
  | 5, h => cases h; simp [EF, EFw, EFs]
  | k + 6, h => simp at h
theorem xg_value : ∀ (j : Nat) (v : Value), ([.float 12, .float 13, .float 14, .float 15, .float 16, .float 17] : List Value)[j]? = some v → (6 + j, "java/lang/String", "value", "[B", v) ∈ EF := by
  intro j v h
  match j, h with
  | 0, h => cases h; simp [EF, EFw, EFs]
  | 1, h => cases h; simp [EF, EFw, EFs]
  | 2, h => cases h; simp [EF, EFw, EFs]
  | 3, h => cases h; simp [EF, EFw, EFs]
  | 4, h => cases h; simp [EF, EFw, EFs]
  | 5, h => cases h; simp [EF, EFw, EFs]
  | k + 6, h => simp at h
theorem xl_words : ∀ (j z : Nat), ([6] : List Nat)[j]? = some z → ∃ ty f, (21 + j, ty, z, f) ∈ ET := by
  intro j z h
  match j, h with
  | 0, h => cases h; exact ⟨.object "PlateArm$Word", fun j => .float (UInt32.ofNat j), by simp [ET]⟩
  | k + 1, h => simp at h
