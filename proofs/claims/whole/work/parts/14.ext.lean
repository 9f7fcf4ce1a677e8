/-! ===== the fields of the things from before ===== -/
theorem xg_letters : ∀ (j : Nat) (v : Value), ([.float 6, .float 7, .float 8, .float 9, .float 10, .float 11] : List Value)[j]? = some v → (0 + j, "PlateArm$Word", "letters", "Ljava/lang/String;", v) ∈ EF := by
  intro j v h
  match j, h with
  | 0, h => cases h; simp [EF, EFw, EFs]
  | 1, h => cases h; simp [EF, EFw, EFs]
  | 2, h => cases h; simp [EF, EFw, EFs]
  | 3, h => cases h; simp [EF, EFw, EFs]
  | 4, h => cases h; simp [EF, EFw, EFs]
  | 5, h => cases h; simp [EF, EFw, EFs]
  | k + 6, h => simp at h
theorem xg_numbers : ∀ (j : Nat) (v : Value), ([.int 0, .int 2, .int 3, .int 1, .int 2, .int 1] : List Value)[j]? = some v → (0 + j, "PlateArm$Word", "numbers", "I", v) ∈ EF := by
  intro j v h
  match j, h with
  | 0, h => cases h; simp [EF, EFw, EFs]
  | 1, h => cases h; simp [EF, EFw, EFs]
  | 2, h => cases h; simp [EF, EFw, EFs]
  | 3, h => cases h; simp [EF, EFw, EFs]
  | 4, h => cases h; simp [EF, EFw, EFs]
  | 5, h => cases h; simp [EF, EFw, EFs]
  | k + 6, h => simp at h
theorem xg_ordinal : ∀ (j : Nat) (v : Value), ([.int 0, .int 1, .int 2, .int 3, .int 4, .int 5] : List Value)[j]? = some v → (0 + j, "java/lang/Enum", "ordinal", "I", v) ∈ EF := by
  intro j v h
  match j, h with
  | 0, h => cases h; simp [EF, EFw, EFs]
  | 1, h => cases h; simp [EF, EFw, EFs]
  | 2, h => cases h; simp [EF, EFw, EFs]
  | 3, h => cases h; simp [EF, EFw, EFs]
  | 4, h => cases h; simp [EF, EFw, EFs]
  | 5, h => cases h; simp [EF, EFw, EFs]
  | k + 6, h => simp at h
theorem xg_coder : ∀ (j : Nat) (v : Value), ([.int 0, .int 0, .int 0, .int 0, .int 0, .int 0] : List Value)[j]? = some v → (6 + j, "java/lang/String", "coder", "B", v) ∈ EF := by
  intro j v h
  match j, h with
  | 0, h => cases h; simp [EF, EFw, EFs]
  | 1, h => cases h; simp [EF, EFw, EFs]
  | 2, h => cases h; simp [EF, EFw, EFs]
  | 3, h => cases h; simp [EF, EFw, EFs]
  | 4, h => cases h; simp [EF, EFw, EFs]
  | 5, h => cases h; simp [EF, EFw, EFs]
  | k + 6, h => simp at h
theorem xg_value : ∀ (j : Nat) (v : Value), ([.float 12, .float 13, .float 14, .float 15, .float 16, .float 17] : List Value)[j]? = some v → (6 + j, "java/lang/String", "value", "[B", v) ∈ EF := by
  intro j v h
  match j, h with
  | 0, h => cases h; simp [EF, EFw, EFs]
  | 1, h => cases h; simp [EF, EFw, EFs]
  | 2, h => cases h; simp [EF, EFw, EFs]
  | 3, h => cases h; simp [EF, EFw, EFs]
  | 4, h => cases h; simp [EF, EFw, EFs]
  | 5, h => cases h; simp [EF, EFw, EFs]
  | k + 6, h => simp at h
theorem xl_words : ∀ (j z : Nat), ([6] : List Nat)[j]? = some z → ∃ ty f, (21 + j, ty, z, f) ∈ ET := by
  intro j z h
  match j, h with
  | 0, h => cases h; exact ⟨.object "PlateArm$Word", fun j => .float (UInt32.ofNat j), by simp [ET]⟩
  | k + 1, h => simp at h
theorem xl_strs : ∀ (j z : Nat), ([0, 5, 4, 6, 3, 5] : List Nat)[j]? = some z → ∃ ty f, (12 + j, ty, z, f) ∈ ET := by
  intro j z h
  match j, h with
  | 0, h => cases h; exact ⟨.byte, exB [], by simp [ET]⟩
  | 1, h => cases h; exact ⟨.byte, exB [112, 108, 97, 116, 101], by simp [ET]⟩
  | 2, h => cases h; exact ⟨.byte, exB [114, 101, 97, 100], by simp [ET]⟩
  | 3, h => cases h; exact ⟨.byte, exB [99, 97, 110, 99, 101, 108], by simp [ET]⟩
  | 4, h => cases h; exact ⟨.byte, exB [115, 101, 116], by simp [ET]⟩
  | 5, h => cases h; exact ⟨.byte, exB [116, 105, 99, 107, 115], by simp [ET]⟩
  | k + 6, h => simp at h
def strBytes : List (List Int32) := [[], [112, 108, 97, 116, 101], [114, 101, 97, 100], [99, 97, 110, 99, 101, 108], [115, 101, 116], [116, 105, 99, 107, 115]]
theorem xl_bytes : ∀ (j : Nat) (l : List Int32), strBytes[j]? = some l → (12 + j, FieldType.byte, l.length, exB l) ∈ ET := by
  intro j z h
  match j, h with
  | 0, h => cases h; simp [ET]
  | 1, h => cases h; simp [ET]
  | 2, h => cases h; simp [ET]
  | 3, h => cases h; simp [ET]
  | 4, h => cases h; simp [ET]
  | 5, h => cases h; simp [ET]
  | k + 6, h => simp [strBytes] at h
