/-! ===== the words' strings ===== -/
variable {Q : AQ} {M : AM}
def SixW (u : UInt32) : Prop := u = 6 ∨ u = 7 ∨ u = 8 ∨ u = 9 ∨ u = 10 ∨ u = 11
set_option maxRecDepth 20000 in
theorem x_coder {u : UInt32} (hu : SixW u) (hQ : Q (.inl (some (.int 0))) M) : Tr tJ0_coder_7d493 0 0 [.float u] M Q := by
  rcases hu with rfl | rfl | rfl | rfl | rfl | rfl <;>
  · refine Tr.run sJ0_coder_7d493 (by decide +kernel) rfl 30 fun X => ?_
    exact And.intro (fun z => absurd z (by decide)) (fun _ => ⟨rfl, hQ⟩)
def strN (u : UInt32) : Nat := [0, 5, 4, 6, 3, 5].getD (u.toNat - 6) 0
set_option maxRecDepth 20000 in
theorem x_latin {u : UInt32} (hu : SixW u) (hQ : Q (.inl (some (.int 1))) M) : Tr tJ0_isLatin1_aae02 0 0 [.float u] M Q := by
  rcases hu with rfl | rfl | rfl | rfl | rfl | rfl <;>
  · refine Tr.run sJ0_isLatin1_aae02 (by decide +kernel) rfl 30 fun X => ?_
    exact And.intro (fun z => absurd z (by decide)) (fun _ => And.intro (fun z => absurd rfl z) (fun _ => ⟨rfl, hQ⟩))
set_option maxRecDepth 20000 in
theorem x_length {u : UInt32} (hu : SixW u) (hQ : Q (.inl (some (.int (nI (strN u))))) M) : Tr tJ0_length_8abf5 0 0 [.float u] M Q := by
  rcases hu with rfl | rfl | rfl | rfl | rfl | rfl <;>
  · refine Tr.run sJ0_length_8abf5 (by decide +kernel) rfl 30 fun X => ?_
    refine x_coder (by simp [SixW]) ?_
    exact hQ
set_option maxRecDepth 20000 in
theorem x_check {i n : Int32} {v : Value} (hv : v = .null ∨ v = .float 22) (h0 : ¬ i < 0) (h1 : i < n) (hQ : Q (.inl (some (.int i))) M) : Tr tJ3_checkIndex_8e157 0 0 [.int i, .int n, v] M Q := by
  rcases hv with rfl | rfl <;>
  · refine Tr.run sJ3_checkIndex_8e157 (by decide +kernel) rfl 30 fun X => ?_
    exact And.intro (fun z => absurd z h0) (fun _ => And.intro (fun _ => hQ) (fun z => absurd h1 z))
set_option maxRecDepth 20000 in
theorem x_check0 {i n : Int32} (h0 : ¬ i < 0) (h1 : i < n) (hQ : Q (.inl none) M) : Tr tJ0_checkIndex_df160 0 0 [.int i, .int n] M Q := by
  refine Tr.run sJ0_checkIndex_df160 (by decide +kernel) rfl 30 fun X => ?_
  refine ⟨?_, ?_⟩
  · refine x_check (Or.inl rfl) h0 h1 ?_
    exact hQ
  · refine x_check (Or.inr rfl) h0 h1 ?_
    exact hQ
def strC (u : UInt32) (k : Nat) : Int32 := (strBytes.getD (u.toNat - 6) []).getD k 0
theorem six_k {u : UInt32} {k : Nat} (hu : SixW u) (hk : k < strN u) : (u = 7 ∧ (k = 0 ∨ k = 1 ∨ k = 2 ∨ k = 3 ∨ k = 4)) ∨ (u = 8 ∧ (k = 0 ∨ k = 1 ∨ k = 2 ∨ k = 3)) ∨ (u = 9 ∧ (k = 0 ∨ k = 1 ∨ k = 2 ∨ k = 3 ∨ k = 4 ∨ k = 5)) ∨ (u = 10 ∧ (k = 0 ∨ k = 1 ∨ k = 2)) ∨ (u = 11 ∧ (k = 0 ∨ k = 1 ∨ k = 2 ∨ k = 3 ∨ k = 4)) := by
  rcases hu with rfl | rfl | rfl | rfl | rfl | rfl
  · exact absurd (show k < 0 from hk) (Nat.not_lt_zero _)
  · have : k < 5 := hk
    exact Or.inl ⟨rfl, by omega⟩
  · have : k < 4 := hk
    exact Or.inr (Or.inl ⟨rfl, by omega⟩)
  · have : k < 6 := hk
    exact Or.inr (Or.inr (Or.inl ⟨rfl, by omega⟩))
  · have : k < 3 := hk
    exact Or.inr (Or.inr (Or.inr (Or.inl ⟨rfl, by omega⟩)))
  · have : k < 5 := hk
    exact Or.inr (Or.inr (Or.inr (Or.inr ⟨rfl, by omega⟩)))
set_option maxRecDepth 20000 in
theorem x_char1 {u w : UInt32} {k : Nat} (hu : SixW u) (hk : k < strN u) (hw : w = u + 6) (hQ : Q (.inl (some (.int (strC u k)))) M) : Tr tJ1_charAt_3b067 0 0 [.float w, .int (nI k)] M Q := by
  subst hw
  rcases six_k hu hk with ⟨rfl, h⟩ | ⟨rfl, h⟩ | ⟨rfl, h⟩ | ⟨rfl, h⟩ | ⟨rfl, h⟩ <;>
  · refine Tr.run sJ1_charAt_3b067 (by decide +kernel) rfl 30 fun X => ?_
    refine x_check0 (nI_pos (by omega)) (nI_lt hk (by decide)) ?_
    rcases h with rfl | rfl | rfl | h <;> first
      | exact ⟨in_lit (by decide), by decide, hQ⟩
      | (rcases h with rfl | h <;> first
          | exact ⟨in_lit (by decide), by decide, hQ⟩
          | (rcases h with rfl | rfl <;> exact ⟨in_lit (by decide), by decide, hQ⟩)
          | (subst h; exact ⟨in_lit (by decide), by decide, hQ⟩))
      | (subst h; exact ⟨in_lit (by decide), by decide, hQ⟩)
theorem strC_c {u : UInt32} {k : Nat} (hu : SixW u) (hk : k < strN u) : (strC u k).toUInt32.toUInt16.toUInt32.toInt32 = strC u k := by
  rcases six_k hu hk with ⟨rfl, h⟩ | ⟨rfl, h⟩ | ⟨rfl, h⟩ | ⟨rfl, h⟩ | ⟨rfl, h⟩
  · rcases h with rfl | rfl | rfl | rfl | rfl <;> decide
  · rcases h with rfl | rfl | rfl | rfl <;> decide
  · rcases h with rfl | rfl | rfl | rfl | rfl | rfl <;> decide
  · rcases h with rfl | rfl | rfl <;> decide
  · rcases h with rfl | rfl | rfl | rfl | rfl <;> decide
set_option maxRecDepth 20000 in
theorem x_charAt {u : UInt32} {k : Nat} {kv : Int32} (hu : SixW u) (hk : k < strN u) (hkv : kv = nI k) (hQ : Q (.inl (some (.int (strC u k)))) M) : Tr tJ0_charAt_5068e 0 0 [.float u, .int kv] M Q := by
  subst hkv
  have hc := strC_c hu hk
  rcases id hu with rfl | rfl | rfl | rfl | rfl | rfl <;>
  · refine Tr.run sJ0_charAt_5068e (by decide +kernel) rfl 30 fun X => ?_
    refine x_latin hu ?_
    refine And.intro (fun z => absurd z (by decide)) (fun _ => ?_)
    refine x_char1 hu hk rfl ?_
    exact ⟨hc, hQ⟩
def holdsV (len : Int32) (B : Nat → Int32) (u : UInt32) (fr : Nat) : Nat → Nat → Bool
  | 0, _ => true
  | d + 1, i => if byteV len B (nI (fr + i)) = strC u i then holdsV len B u fr d (i + 1) else false
set_option maxRecDepth 20000 in
theorem c_holds_6 {len fv ev : Int32} {B : Nat → Int32} {fr en : Nat} (hu : SixW (6 : UInt32)) (hl : len.toInt ≤ 150) (hf : fv = nI fr) (he : ev = nI en) (hfe : fr ≤ en) (hen : en ≤ 200) (hQ : Q (.inl (some (.int (bI (if en - fr = strN (6 : UInt32) then holdsV len B (6 : UInt32) fr (strN (6 : UInt32)) 0 else false))))) (tcW 0 len B)) : Tr tX3_holds 0 0 [.ref 0, .float (6 : UInt32), .int fv, .int ev] (tcW 0 len B) Q := by
  have hs : strN (6 : UInt32) ≤ 6 := by decide
  refine Tr.of sX3_holds (by decide +kernel) (Nat.le_of_ble_eq_true rfl) fun X hX => ?_
  have key : ∀ (d i : Nat) (iv : Int32), i + d = strN (6 : UInt32) → iv = nI i → Q (.inl (some (.int (bI (holdsV len B (6 : UInt32) fr d i))))) (tcW 0 len B) → X 15 [some (.ref 0), some (.float (6 : UInt32)), some (.int fv), some (.int ev), some (.int iv)] [] (tcW 0 len B) (0, 0) := by
    intro d
    induction d with
    | zero =>
      intro i iv hi hv hq
      refine go hX (fun _ => none) 40 ?_
      refine x_length hu ?_
      exact And.intro (fun _ => ⟨rfl, hq⟩) (fun h => absurd (by rw [hv, show i = strN (6 : UInt32) by omega]; exact Int32.le_refl _) h)
    | succ d ih =>
      intro i iv hi hv hq
      refine go hX (fun pc => if pc = 15 then some 5 else none) 40 ?_
      refine x_length hu ?_
      refine And.intro (fun h => absurd h (by rw [hv]; exact nI_ge (by omega) (by omega))) (fun _ => ?_)
      refine c_byteAt (at_ := fv + iv) hl ?_
      refine x_charAt (k := i) hu (by omega) hv ?_
      have e : fv + iv = nI (fr + i) := by rw [hf, hv, nI_add]
      rw [e]
      refine And.intro (fun h => ?_) (fun h => ?_)
      · rw [show holdsV len B (6 : UInt32) fr (d + 1) i = holdsV len B (6 : UInt32) fr d (i + 1) from if_pos h] at hq
        exact ih (i + 1) (iv + 1) (by omega) (by rw [hv]; exact nI_1 i) hq
      · rw [show holdsV len B (6 : UInt32) fr (d + 1) i = false from if_neg h] at hq
        exact ⟨rfl, hq⟩
  refine go hX (fun pc => if pc = 15 then some 5 else none) 40 ?_
  refine x_length hu ?_
  have e : ev - fv = nI (en - fr) := by rw [hf, he]; exact sub_nI hfe
  rw [e]
  refine And.intro (fun h => ?_) (fun h => ?_)
  · have h2 := (nI_eq (by omega) (by omega)).mp h
    rw [if_pos h2] at hQ
    exact key (strN (6 : UInt32)) 0 0 (by omega) rfl hQ
  · have h2 : ¬ en - fr = strN (6 : UInt32) := fun z => h (by rw [z])
    rw [if_neg h2] at hQ
    exact ⟨rfl, hQ⟩

set_option maxRecDepth 20000 in
theorem c_holds_7 {len fv ev : Int32} {B : Nat → Int32} {fr en : Nat} (hu : SixW (7 : UInt32)) (hl : len.toInt ≤ 150) (hf : fv = nI fr) (he : ev = nI en) (hfe : fr ≤ en) (hen : en ≤ 200) (hQ : Q (.inl (some (.int (bI (if en - fr = strN (7 : UInt32) then holdsV len B (7 : UInt32) fr (strN (7 : UInt32)) 0 else false))))) (tcW 0 len B)) : Tr tX3_holds 0 0 [.ref 0, .float (7 : UInt32), .int fv, .int ev] (tcW 0 len B) Q := by
  have hs : strN (7 : UInt32) ≤ 6 := by decide
  refine Tr.of sX3_holds (by decide +kernel) (Nat.le_of_ble_eq_true rfl) fun X hX => ?_
  have key : ∀ (d i : Nat) (iv : Int32), i + d = strN (7 : UInt32) → iv = nI i → Q (.inl (some (.int (bI (holdsV len B (7 : UInt32) fr d i))))) (tcW 0 len B) → X 15 [some (.ref 0), some (.float (7 : UInt32)), some (.int fv), some (.int ev), some (.int iv)] [] (tcW 0 len B) (0, 0) := by
    intro d
    induction d with
    | zero =>
      intro i iv hi hv hq
      refine go hX (fun _ => none) 40 ?_
      refine x_length hu ?_
      exact And.intro (fun _ => ⟨rfl, hq⟩) (fun h => absurd (by rw [hv, show i = strN (7 : UInt32) by omega]; exact Int32.le_refl _) h)
    | succ d ih =>
      intro i iv hi hv hq
      refine go hX (fun pc => if pc = 15 then some 5 else none) 40 ?_
      refine x_length hu ?_
      refine And.intro (fun h => absurd h (by rw [hv]; exact nI_ge (by omega) (by omega))) (fun _ => ?_)
      refine c_byteAt (at_ := fv + iv) hl ?_
      refine x_charAt (k := i) hu (by omega) hv ?_
      have e : fv + iv = nI (fr + i) := by rw [hf, hv, nI_add]
      rw [e]
      refine And.intro (fun h => ?_) (fun h => ?_)
      · rw [show holdsV len B (7 : UInt32) fr (d + 1) i = holdsV len B (7 : UInt32) fr d (i + 1) from if_pos h] at hq
        exact ih (i + 1) (iv + 1) (by omega) (by rw [hv]; exact nI_1 i) hq
      · rw [show holdsV len B (7 : UInt32) fr (d + 1) i = false from if_neg h] at hq
        exact ⟨rfl, hq⟩
  refine go hX (fun pc => if pc = 15 then some 5 else none) 40 ?_
  refine x_length hu ?_
  have e : ev - fv = nI (en - fr) := by rw [hf, he]; exact sub_nI hfe
  rw [e]
  refine And.intro (fun h => ?_) (fun h => ?_)
  · have h2 := (nI_eq (by omega) (by omega)).mp h
    rw [if_pos h2] at hQ
    exact key (strN (7 : UInt32)) 0 0 (by omega) rfl hQ
  · have h2 : ¬ en - fr = strN (7 : UInt32) := fun z => h (by rw [z])
    rw [if_neg h2] at hQ
    exact ⟨rfl, hQ⟩

set_option maxRecDepth 20000 in
theorem c_holds_8 {len fv ev : Int32} {B : Nat → Int32} {fr en : Nat} (hu : SixW (8 : UInt32)) (hl : len.toInt ≤ 150) (hf : fv = nI fr) (he : ev = nI en) (hfe : fr ≤ en) (hen : en ≤ 200) (hQ : Q (.inl (some (.int (bI (if en - fr = strN (8 : UInt32) then holdsV len B (8 : UInt32) fr (strN (8 : UInt32)) 0 else false))))) (tcW 0 len B)) : Tr tX3_holds 0 0 [.ref 0, .float (8 : UInt32), .int fv, .int ev] (tcW 0 len B) Q := by
  have hs : strN (8 : UInt32) ≤ 6 := by decide
  refine Tr.of sX3_holds (by decide +kernel) (Nat.le_of_ble_eq_true rfl) fun X hX => ?_
  have key : ∀ (d i : Nat) (iv : Int32), i + d = strN (8 : UInt32) → iv = nI i → Q (.inl (some (.int (bI (holdsV len B (8 : UInt32) fr d i))))) (tcW 0 len B) → X 15 [some (.ref 0), some (.float (8 : UInt32)), some (.int fv), some (.int ev), some (.int iv)] [] (tcW 0 len B) (0, 0) := by
    intro d
    induction d with
    | zero =>
      intro i iv hi hv hq
      refine go hX (fun _ => none) 40 ?_
      refine x_length hu ?_
      exact And.intro (fun _ => ⟨rfl, hq⟩) (fun h => absurd (by rw [hv, show i = strN (8 : UInt32) by omega]; exact Int32.le_refl _) h)
    | succ d ih =>
      intro i iv hi hv hq
      refine go hX (fun pc => if pc = 15 then some 5 else none) 40 ?_
      refine x_length hu ?_
      refine And.intro (fun h => absurd h (by rw [hv]; exact nI_ge (by omega) (by omega))) (fun _ => ?_)
      refine c_byteAt (at_ := fv + iv) hl ?_
      refine x_charAt (k := i) hu (by omega) hv ?_
      have e : fv + iv = nI (fr + i) := by rw [hf, hv, nI_add]
      rw [e]
      refine And.intro (fun h => ?_) (fun h => ?_)
      · rw [show holdsV len B (8 : UInt32) fr (d + 1) i = holdsV len B (8 : UInt32) fr d (i + 1) from if_pos h] at hq
        exact ih (i + 1) (iv + 1) (by omega) (by rw [hv]; exact nI_1 i) hq
      · rw [show holdsV len B (8 : UInt32) fr (d + 1) i = false from if_neg h] at hq
        exact ⟨rfl, hq⟩
  refine go hX (fun pc => if pc = 15 then some 5 else none) 40 ?_
  refine x_length hu ?_
  have e : ev - fv = nI (en - fr) := by rw [hf, he]; exact sub_nI hfe
  rw [e]
  refine And.intro (fun h => ?_) (fun h => ?_)
  · have h2 := (nI_eq (by omega) (by omega)).mp h
    rw [if_pos h2] at hQ
    exact key (strN (8 : UInt32)) 0 0 (by omega) rfl hQ
  · have h2 : ¬ en - fr = strN (8 : UInt32) := fun z => h (by rw [z])
    rw [if_neg h2] at hQ
    exact ⟨rfl, hQ⟩

set_option maxRecDepth 20000 in
theorem c_holds_9 {len fv ev : Int32} {B : Nat → Int32} {fr en : Nat} (hu : SixW (9 : UInt32)) (hl : len.toInt ≤ 150) (hf : fv = nI fr) (he : ev = nI en) (hfe : fr ≤ en) (hen : en ≤ 200) (hQ : Q (.inl (some (.int (bI (if en - fr = strN (9 : UInt32) then holdsV len B (9 : UInt32) fr (strN (9 : UInt32)) 0 else false))))) (tcW 0 len B)) : Tr tX3_holds 0 0 [.ref 0, .float (9 : UInt32), .int fv, .int ev] (tcW 0 len B) Q := by
  have hs : strN (9 : UInt32) ≤ 6 := by decide
  refine Tr.of sX3_holds (by decide +kernel) (Nat.le_of_ble_eq_true rfl) fun X hX => ?_
  have key : ∀ (d i : Nat) (iv : Int32), i + d = strN (9 : UInt32) → iv = nI i → Q (.inl (some (.int (bI (holdsV len B (9 : UInt32) fr d i))))) (tcW 0 len B) → X 15 [some (.ref 0), some (.float (9 : UInt32)), some (.int fv), some (.int ev), some (.int iv)] [] (tcW 0 len B) (0, 0) := by
    intro d
    induction d with
    | zero =>
      intro i iv hi hv hq
      refine go hX (fun _ => none) 40 ?_
      refine x_length hu ?_
      exact And.intro (fun _ => ⟨rfl, hq⟩) (fun h => absurd (by rw [hv, show i = strN (9 : UInt32) by omega]; exact Int32.le_refl _) h)
    | succ d ih =>
      intro i iv hi hv hq
      refine go hX (fun pc => if pc = 15 then some 5 else none) 40 ?_
      refine x_length hu ?_
      refine And.intro (fun h => absurd h (by rw [hv]; exact nI_ge (by omega) (by omega))) (fun _ => ?_)
      refine c_byteAt (at_ := fv + iv) hl ?_
      refine x_charAt (k := i) hu (by omega) hv ?_
      have e : fv + iv = nI (fr + i) := by rw [hf, hv, nI_add]
      rw [e]
      refine And.intro (fun h => ?_) (fun h => ?_)
      · rw [show holdsV len B (9 : UInt32) fr (d + 1) i = holdsV len B (9 : UInt32) fr d (i + 1) from if_pos h] at hq
        exact ih (i + 1) (iv + 1) (by omega) (by rw [hv]; exact nI_1 i) hq
      · rw [show holdsV len B (9 : UInt32) fr (d + 1) i = false from if_neg h] at hq
        exact ⟨rfl, hq⟩
  refine go hX (fun pc => if pc = 15 then some 5 else none) 40 ?_
  refine x_length hu ?_
  have e : ev - fv = nI (en - fr) := by rw [hf, he]; exact sub_nI hfe
  rw [e]
  refine And.intro (fun h => ?_) (fun h => ?_)
  · have h2 := (nI_eq (by omega) (by omega)).mp h
    rw [if_pos h2] at hQ
    exact key (strN (9 : UInt32)) 0 0 (by omega) rfl hQ
  · have h2 : ¬ en - fr = strN (9 : UInt32) := fun z => h (by rw [z])
    rw [if_neg h2] at hQ
    exact ⟨rfl, hQ⟩

set_option maxRecDepth 20000 in
theorem c_holds_10 {len fv ev : Int32} {B : Nat → Int32} {fr en : Nat} (hu : SixW (10 : UInt32)) (hl : len.toInt ≤ 150) (hf : fv = nI fr) (he : ev = nI en) (hfe : fr ≤ en) (hen : en ≤ 200) (hQ : Q (.inl (some (.int (bI (if en - fr = strN (10 : UInt32) then holdsV len B (10 : UInt32) fr (strN (10 : UInt32)) 0 else false))))) (tcW 0 len B)) : Tr tX3_holds 0 0 [.ref 0, .float (10 : UInt32), .int fv, .int ev] (tcW 0 len B) Q := by
  have hs : strN (10 : UInt32) ≤ 6 := by decide
  refine Tr.of sX3_holds (by decide +kernel) (Nat.le_of_ble_eq_true rfl) fun X hX => ?_
  have key : ∀ (d i : Nat) (iv : Int32), i + d = strN (10 : UInt32) → iv = nI i → Q (.inl (some (.int (bI (holdsV len B (10 : UInt32) fr d i))))) (tcW 0 len B) → X 15 [some (.ref 0), some (.float (10 : UInt32)), some (.int fv), some (.int ev), some (.int iv)] [] (tcW 0 len B) (0, 0) := by
    intro d
    induction d with
    | zero =>
      intro i iv hi hv hq
      refine go hX (fun _ => none) 40 ?_
      refine x_length hu ?_
      exact And.intro (fun _ => ⟨rfl, hq⟩) (fun h => absurd (by rw [hv, show i = strN (10 : UInt32) by omega]; exact Int32.le_refl _) h)
    | succ d ih =>
      intro i iv hi hv hq
      refine go hX (fun pc => if pc = 15 then some 5 else none) 40 ?_
      refine x_length hu ?_
      refine And.intro (fun h => absurd h (by rw [hv]; exact nI_ge (by omega) (by omega))) (fun _ => ?_)
      refine c_byteAt (at_ := fv + iv) hl ?_
      refine x_charAt (k := i) hu (by omega) hv ?_
      have e : fv + iv = nI (fr + i) := by rw [hf, hv, nI_add]
      rw [e]
      refine And.intro (fun h => ?_) (fun h => ?_)
      · rw [show holdsV len B (10 : UInt32) fr (d + 1) i = holdsV len B (10 : UInt32) fr d (i + 1) from if_pos h] at hq
        exact ih (i + 1) (iv + 1) (by omega) (by rw [hv]; exact nI_1 i) hq
      · rw [show holdsV len B (10 : UInt32) fr (d + 1) i = false from if_neg h] at hq
        exact ⟨rfl, hq⟩
  refine go hX (fun pc => if pc = 15 then some 5 else none) 40 ?_
  refine x_length hu ?_
  have e : ev - fv = nI (en - fr) := by rw [hf, he]; exact sub_nI hfe
  rw [e]
  refine And.intro (fun h => ?_) (fun h => ?_)
  · have h2 := (nI_eq (by omega) (by omega)).mp h
    rw [if_pos h2] at hQ
    exact key (strN (10 : UInt32)) 0 0 (by omega) rfl hQ
  · have h2 : ¬ en - fr = strN (10 : UInt32) := fun z => h (by rw [z])
    rw [if_neg h2] at hQ
    exact ⟨rfl, hQ⟩

set_option maxRecDepth 20000 in
theorem c_holds_11 {len fv ev : Int32} {B : Nat → Int32} {fr en : Nat} (hu : SixW (11 : UInt32)) (hl : len.toInt ≤ 150) (hf : fv = nI fr) (he : ev = nI en) (hfe : fr ≤ en) (hen : en ≤ 200) (hQ : Q (.inl (some (.int (bI (if en - fr = strN (11 : UInt32) then holdsV len B (11 : UInt32) fr (strN (11 : UInt32)) 0 else false))))) (tcW 0 len B)) : Tr tX3_holds 0 0 [.ref 0, .float (11 : UInt32), .int fv, .int ev] (tcW 0 len B) Q := by
  have hs : strN (11 : UInt32) ≤ 6 := by decide
  refine Tr.of sX3_holds (by decide +kernel) (Nat.le_of_ble_eq_true rfl) fun X hX => ?_
  have key : ∀ (d i : Nat) (iv : Int32), i + d = strN (11 : UInt32) → iv = nI i → Q (.inl (some (.int (bI (holdsV len B (11 : UInt32) fr d i))))) (tcW 0 len B) → X 15 [some (.ref 0), some (.float (11 : UInt32)), some (.int fv), some (.int ev), some (.int iv)] [] (tcW 0 len B) (0, 0) := by
    intro d
    induction d with
    | zero =>
      intro i iv hi hv hq
      refine go hX (fun _ => none) 40 ?_
      refine x_length hu ?_
      exact And.intro (fun _ => ⟨rfl, hq⟩) (fun h => absurd (by rw [hv, show i = strN (11 : UInt32) by omega]; exact Int32.le_refl _) h)
    | succ d ih =>
      intro i iv hi hv hq
      refine go hX (fun pc => if pc = 15 then some 5 else none) 40 ?_
      refine x_length hu ?_
      refine And.intro (fun h => absurd h (by rw [hv]; exact nI_ge (by omega) (by omega))) (fun _ => ?_)
      refine c_byteAt (at_ := fv + iv) hl ?_
      refine x_charAt (k := i) hu (by omega) hv ?_
      have e : fv + iv = nI (fr + i) := by rw [hf, hv, nI_add]
      rw [e]
      refine And.intro (fun h => ?_) (fun h => ?_)
      · rw [show holdsV len B (11 : UInt32) fr (d + 1) i = holdsV len B (11 : UInt32) fr d (i + 1) from if_pos h] at hq
        exact ih (i + 1) (iv + 1) (by omega) (by rw [hv]; exact nI_1 i) hq
      · rw [show holdsV len B (11 : UInt32) fr (d + 1) i = false from if_neg h] at hq
        exact ⟨rfl, hq⟩
  refine go hX (fun pc => if pc = 15 then some 5 else none) 40 ?_
  refine x_length hu ?_
  have e : ev - fv = nI (en - fr) := by rw [hf, he]; exact sub_nI hfe
  rw [e]
  refine And.intro (fun h => ?_) (fun h => ?_)
  · have h2 := (nI_eq (by omega) (by omega)).mp h
    rw [if_pos h2] at hQ
    exact key (strN (11 : UInt32)) 0 0 (by omega) rfl hQ
  · have h2 : ¬ en - fr = strN (11 : UInt32) := fun z => h (by rw [z])
    rw [if_neg h2] at hQ
    exact ⟨rfl, hQ⟩

theorem c_holds {len fv ev : Int32} {B : Nat → Int32} {u : UInt32} {fr en : Nat} (hu : SixW u) (hl : len.toInt ≤ 150) (hf : fv = nI fr) (he : ev = nI en) (hfe : fr ≤ en) (hen : en ≤ 200) (hQ : Q (.inl (some (.int (bI (if en - fr = strN u then holdsV len B u fr (strN u) 0 else false))))) (tcW 0 len B)) : Tr tX3_holds 0 0 [.ref 0, .float u, .int fv, .int ev] (tcW 0 len B) Q := by
  rcases id hu with rfl | rfl | rfl | rfl | rfl | rfl
  · exact c_holds_6 hu hl hf he hfe hen hQ
  · exact c_holds_7 hu hl hf he hfe hen hQ
  · exact c_holds_8 hu hl hf he hfe hen hQ
  · exact c_holds_9 hu hl hf he hfe hen hQ
  · exact c_holds_10 hu hl hf he hfe hen hQ
  · exact c_holds_11 hu hl hf he hfe hen hQ
