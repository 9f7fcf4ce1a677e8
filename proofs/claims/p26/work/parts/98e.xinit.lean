/-! ===== new PlateArm() ===== -/
variable {Q : AQ}
abbrev Rz : Nat → Nat → Int32 := fun _ _ => 0
abbrev Lz : Nat → Int32 := fun _ => 0
abbrev wz (S : Nat → Int32) : Wd := (initU, 0, S, Rz, Lz)
def SOk (S : Nat → Int32) : Prop := ∀ j, j < 4 → S j = initU (2 + j)
theorem cw_init {S1 S2 : Nat → Int32} {wn : Nat → Wd} {f : Nat → Option Nat} {b : Nat → Int32} (h1 : SOk S1) (hf : ∀ j, j < 4 → f j = some (35 + 12 * j)) : CW 0 (initS, []) 0 b (p5 0 initS S1 Rz Lz (wz S2) f Rz 0 Lz c00 (wins wn)) := by
  refine ⟨S1, Rz, Lz, wz S2, f, Rz, Lz, c00, wn, rfl, ⟨h1, fun k r h => by simp [initS] at h, 0, 0, rfl, rfl, by simp [initS], Nat.le_refl _, rfl, fun k r h => by simp [initS] at h⟩, Nat.zero_le _, ⟨0, by decide, fun j hj => ?_, fun j x h => by simp at h⟩, ⟨Or.inl rfl, 0, by decide, rfl⟩, rfl, by decide, fun k hk => absurd hk (Nat.not_lt_zero k)⟩
  rw [hf j hj]
  rcases (show j = 0 ∨ j = 1 ∨ j = 2 ∨ j = 3 by omega) with rfl | rfl | rfl | rfl <;> rfl
set_option maxRecDepth 20000 in
theorem p_init (hQ : ∀ M, (∀ b, CW 0 (initS, []) 0 b M) → Q (.inl none) M) : Tr tX9_init 100 6000 [.ref 0] [.inr (7, [.null, .null, .null, .int 0, .null, .null, .null])] Q := by
  refine Tr.of sX9_init (by decide +kernel) (Nat.le_of_ble_eq_true rfl) fun X hX => ?_
  have e4 : ∀ S1 S2 S3 S4 S5 S6, SOk S1 → ∀ f : Nat → Option Nat, (∀ j, j < 4 → f j = some (35 + 12 * j)) → X 69 [some (.ref 0), some (.int 4)] [] (p5 0 initS S1 Rz Lz (wz S2) f Rz 0 Lz c00 (stW 35 (wz S3) ++ (stW 47 (wz S4) ++ (stW 59 (wz S5) ++ stW 71 (wz S6))))) (18, 4949) := by
    intro S1 S2 S3 S4 S5 S6 h1 f hf
    refine go hX (fun _ => none) 20 ?_
    refine And.intro (fun _ => ?_) (fun z => absurd (by decide) z)
    exact hQ _ (fun b => cw_init (wn := fun i => match i with | 0 => wz S3 | 1 => wz S4 | 2 => wz S5 | _ => wz S6) h1 hf)
  have e3 : ∀ S1 S2 S3 S4 S5, SOk S1 → ∀ f : Nat → Option Nat, f 0 = some 35 → f 1 = some 47 → f 2 = some 59 → X 69 [some (.ref 0), some (.int 3)] [] (p5 0 initS S1 Rz Lz (wz S2) f Rz 0 Lz c00 (stW 35 (wz S3) ++ (stW 47 (wz S4) ++ stW 59 (wz S5)))) (30, 5092) := by
    intro S1 S2 S3 S4 S5 h1 f f0 f1 f2
    refine go hX (fun pc => if pc = 86 then some 2 else none) 20 ?_
    refine And.intro (fun z => absurd z (by decide)) (fun _ => ?_)
    refine Tr.at [71] (c_sinit fun S6 h6 => ?_) rfl rfl rfl
    refine go hX (fun pc => if pc = 69 then some 2 else none) 20 ?_
    refine ⟨in_lit (by decide), ?_⟩
    refine e4 S1 S2 S3 S4 S5 S6 h1 _ (fun j hj => ?_)
    rcases (show j = 0 ∨ j = 1 ∨ j = 2 ∨ j = 3 by omega) with rfl | rfl | rfl | rfl
    · exact f0
    · exact f1
    · exact f2
    · rfl
  have e2 : ∀ S1 S2 S3 S4, SOk S1 → ∀ f : Nat → Option Nat, f 0 = some 35 → f 1 = some 47 → X 69 [some (.ref 0), some (.int 2)] [] (p5 0 initS S1 Rz Lz (wz S2) f Rz 0 Lz c00 (stW 35 (wz S3) ++ stW 47 (wz S4))) (42, 5235) := by
    intro S1 S2 S3 S4 h1 f f0 f1
    refine go hX (fun pc => if pc = 86 then some 2 else none) 20 ?_
    refine And.intro (fun z => absurd z (by decide)) (fun _ => ?_)
    refine Tr.at [59] (c_sinit fun S5 h5 => ?_) rfl rfl rfl
    refine go hX (fun pc => if pc = 69 then some 2 else none) 20 ?_
    refine ⟨in_lit (by decide), ?_⟩
    exact e3 S1 S2 S3 S4 S5 h1 _ f0 f1 rfl
  have e1 : ∀ S1 S2 S3, SOk S1 → ∀ f : Nat → Option Nat, f 0 = some 35 → X 69 [some (.ref 0), some (.int 1)] [] (p5 0 initS S1 Rz Lz (wz S2) f Rz 0 Lz c00 (stW 35 (wz S3))) (54, 5378) := by
    intro S1 S2 S3 h1 f f0
    refine go hX (fun pc => if pc = 86 then some 2 else none) 20 ?_
    refine And.intro (fun z => absurd z (by decide)) (fun _ => ?_)
    refine Tr.at [47] (c_sinit fun S4 h4 => ?_) rfl rfl rfl
    refine go hX (fun pc => if pc = 69 then some 2 else none) 20 ?_
    refine ⟨in_lit (by decide), ?_⟩
    exact e2 S1 S2 S3 S4 h1 _ f0 rfl
  have e0 : ∀ S1 S2, SOk S1 → X 69 [some (.ref 0), some (.int 0)] [] (p5 0 initS S1 Rz Lz (wz S2) (fun _ => none) Rz 0 Lz c00 []) (66, 5521) := by
    intro S1 S2 h1
    refine go hX (fun pc => if pc = 86 then some 2 else none) 20 ?_
    refine And.intro (fun z => absurd z (by decide)) (fun _ => ?_)
    refine Tr.at [35] (c_sinit fun S3 h3 => ?_) rfl rfl rfl
    refine go hX (fun pc => if pc = 69 then some 2 else none) 20 ?_
    refine ⟨in_lit (by decide), ?_⟩
    exact e1 S1 S2 S3 h1 _ rfl
  have p53 : ∀ S1 S2, SOk S1 → X 53 [some (.ref 0), none] [.ref 31, .ref 0] (.inr (7, [.ref 1, .ref 13, .ref 25, .int 0, .ref 26, .null, .null]) :: (stA 1 initU 0 S1 Rz Lz ++ (stA 13 initU 0 S2 Rz Lz ++ (.inl (3, 4, .inr (.inr (.inr (.inr (fun _ => none))))) :: .inl (4, 4, .inr (.inr (.inr (.inr fcR)))) :: .inl (0, 6, .inl Lz) :: .inl (0, 6, .inl Lz) :: .inl (0, 6, .inl Lz) :: .inl (0, 6, .inl Lz) :: tcW 31 0 Lz)))) (68, 5530) := by
    intro S1 S2 h1
    refine go hX (fun pc => if pc = 64 then some 2 else none) 20 ?_
    refine ⟨trivial, ?_⟩
    refine Tr.at [33] (c_cinit ?_) rfl rfl rfl
    refine go hX (fun pc => if pc = 69 then some 2 else none) 20 ?_
    refine ⟨trivial, ?_⟩
    exact e0 S1 S2 h1
  have p23 : ∀ S1 S2, SOk S1 → X 23 [some (.ref 0), none] [.ref 13, .ref 0] (.inr (7, [.ref 1, .null, .null, .int 0, .null, .null, .null]) :: (stA 1 initU 0 S1 Rz Lz ++ stA 13 initU 0 S2 Rz Lz)) (76, 5714) := by
    intro S1 S2 h1
    refine go hX (fun pc => if pc = 53 then some 2 else none) 30 ?_
    refine ⟨trivial, rfl, trivial, ⟨rfl, rfl⟩, trivial, ?_⟩
    refine Tr.at [31] (c_xinit ?_) rfl rfl rfl
    exact p53 S1 S2 h1
  have p12 : ∀ S1, SOk S1 → X 12 [some (.ref 0), none] [.ref 1, .ref 0] (.inr (7, [.null, .null, .null, .int 0, .null, .null, .null]) :: stA 1 initU 0 S1 Rz Lz) (88, 5857) := by
    intro S1 h1
    refine go hX (fun pc => if pc = 23 then some 2 else none) 20 ?_
    refine ⟨trivial, ?_⟩
    refine Tr.at [13] (c_sinit fun S2 h2 => ?_) rfl rfl rfl
    exact p23 S1 S2 h1
  refine go hX (fun pc => if pc = 12 then some 2 else none) 20 ?_
  refine Tr.at [1] (c_sinit fun S1 h1 => ?_) rfl rfl rfl
  exact p12 S1 h1

