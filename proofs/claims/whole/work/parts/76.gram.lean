/-! ===== the grammar of command texts ===== -/
variable {n : Nat} {b B : Nat → Int32} {len : Int32} {c : Scn}
theorem inI_one {v c : Int32} : inI v c c = true ↔ v = c := by
  rw [inI_iff]
  constructor
  · intro h
    exact Int32.toInt_inj.mp (by omega)
  · intro h
    rw [h]
    exact ⟨Int.le_refl _, Int.le_refl _⟩
def isA (n : Nat) (b : Nat → Int32) (lo hi : Int32) (p : Nat) : Bool := if p < n then inI (b p) lo hi else false
theorem isA_lt {lo hi : Int32} {p : Nat} (h : isA n b lo hi p = true) : p < n ∧ inI (b p) lo hi = true := by
  unfold isA at h
  split at h
  · rename_i hp; exact ⟨hp, h⟩
  · cases h
theorem isA_in {lo hi : Int32} {p : Nat} (hp : p < n) : isA n b lo hi p = inI (b p) lo hi := if_pos hp
theorem isA_out {lo hi : Int32} {p : Nat} (hp : ¬ p < n) : isA n b lo hi p = false := if_neg hp
def spn (n : Nat) (b : Nat → Int32) (lo hi : Int32) : Nat → Nat → Nat
  | 0, p => p
  | d + 1, p => if isA n b lo hi p = true then spn n b lo hi d (p + 1) else p
theorem spn_yes {lo hi : Int32} {d p : Nat} (h : isA n b lo hi p = true) : spn n b lo hi (d + 1) p = spn n b lo hi d (p + 1) := if_pos h
theorem spn_no {lo hi : Int32} {p : Nat} (h : isA n b lo hi p = false) : ∀ d, spn n b lo hi d p = p
  | 0 => rfl
  | d + 1 => if_neg (by rw [h]; decide)
theorem spn_ge {lo hi : Int32} : ∀ (d p : Nat), p ≤ spn n b lo hi d p
  | 0, p => Nat.le_refl _
  | d + 1, p => by
    cases h : isA n b lo hi p with
    | true => rw [spn_yes h]; have := spn_ge (lo := lo) (hi := hi) d (p + 1); omega
    | false => rw [spn_no h]; exact Nat.le_refl _
theorem spn_le {lo hi : Int32} : ∀ (d p : Nat), p ≤ n → spn n b lo hi d p ≤ n
  | 0, p, h => h
  | d + 1, p, h => by
    cases h1 : isA n b lo hi p with
    | true => rw [spn_yes h1]; exact spn_le d (p + 1) (isA_lt h1).1
    | false => rw [spn_no h1]; exact h
theorem spn_d {lo hi : Int32} : ∀ (d p : Nat), spn n b lo hi d p ≤ p + d
  | 0, p => Nat.le_refl _
  | d + 1, p => by
    cases h1 : isA n b lo hi p with
    | true => rw [spn_yes h1]; have := spn_d (lo := lo) (hi := hi) d (p + 1); omega
    | false => rw [spn_no h1]; omega
theorem spn_stop {lo hi : Int32} : ∀ (d p : Nat), n ≤ p + d → isA n b lo hi (spn n b lo hi d p) = false
  | 0, p, h => isA_out (show ¬ p < n by omega)
  | d + 1, p, h => by
    cases h1 : isA n b lo hi p with
    | true => rw [spn_yes h1]; exact spn_stop d (p + 1) (by omega)
    | false => rw [spn_no h1]; exact h1
theorem spn_full {lo hi : Int32} : ∀ (d p : Nat), spn n b lo hi d p < p + d → isA n b lo hi (spn n b lo hi d p) = false
  | 0, p, h => absurd h (Nat.lt_irrefl _)
  | d + 1, p, h => by
    cases h1 : isA n b lo hi p with
    | true => rw [spn_yes h1] at h ⊢; exact spn_full d (p + 1) (by omega)
    | false => rw [spn_no h1]; exact h1
def runE (n : Nat) (b : Nat → Int32) (lo hi : Int32) (p : Nat) : Nat := spn n b lo hi (n - p) p
theorem runE_step {lo hi : Int32} {p : Nat} (h : isA n b lo hi p = true) : runE n b lo hi p = runE n b lo hi (p + 1) := by
  have hp := (isA_lt h).1
  unfold runE
  rw [show n - p = (n - (p + 1)) + 1 by omega]
  exact spn_yes h
theorem runE_no {lo hi : Int32} {p : Nat} (h : isA n b lo hi p = false) : runE n b lo hi p = p := spn_no h _
theorem runE_ge {lo hi : Int32} (p : Nat) : p ≤ runE n b lo hi p := spn_ge _ _
theorem runE_le {lo hi : Int32} {p : Nat} (h : p ≤ n) : runE n b lo hi p ≤ n := spn_le _ _ h
theorem runE_stop {lo hi : Int32} (p : Nat) : isA n b lo hi (runE n b lo hi p) = false := spn_stop _ _ (by omega)
def digV (b : Nat → Int32) : Nat → Nat → Int32 → Int32
  | _, 0, v => v
  | q, d + 1, v => digV b (q + 1) d (10 * v + b q - 48)
def numF (n : Nat) (b : Nat → Int32) (p : Nat) : Bool × Nat × Int32 :=
  if isA n b 32 32 p = true then
    (decide (runE n b 32 32 p < spn n b 48 57 4 (runE n b 32 32 p)) && !isA n b 48 57 (spn n b 48 57 4 (runE n b 32 32 p)), spn n b 48 57 4 (runE n b 32 32 p), digV b (runE n b 32 32 p) (spn n b 48 57 4 (runE n b 32 32 p) - runE n b 32 32 p) 0)
  else (false, p, 0)
def lenW (d e f : Int32) : Nat := if d = 0 then 3 else if e = 0 then 4 else if f = 0 then 5 else 6
def isWP (b : Nat → Int32) (fr p : Nat) (a1 a2 a3 a4 a5 a6 : Int32) : Prop := p - fr = lenW a4 a5 a6 ∧ b fr = a1 ∧ b (fr + 1) = a2 ∧ b (fr + 2) = a3 ∧ (4 ≤ lenW a4 a5 a6 → b (fr + 3) = a4) ∧ (5 ≤ lenW a4 a5 a6 → b (fr + 4) = a5) ∧ (6 ≤ lenW a4 a5 a6 → b (fr + 5) = a6)
noncomputable def isW (b : Nat → Int32) (fr p : Nat) (a1 a2 a3 a4 a5 a6 : Int32) : Bool := @decide (isWP b fr p a1 a2 a3 a4 a5 a6) (Classical.propDecidable _)
theorem isW_t {fr p : Nat} {a1 a2 a3 a4 a5 a6 : Int32} (h : isWP b fr p a1 a2 a3 a4 a5 a6) : isW b fr p a1 a2 a3 a4 a5 a6 = true := @decide_eq_true _ (Classical.propDecidable _) h
theorem isW_f {fr p : Nat} {a1 a2 a3 a4 a5 a6 : Int32} (h : ¬ isWP b fr p a1 a2 a3 a4 a5 a6) : isW b fr p a1 a2 a3 a4 a5 a6 = false := @decide_eq_false _ (Classical.propDecidable _) h
theorem isW_iff {fr p : Nat} {a1 a2 a3 a4 a5 a6 : Int32} : isW b fr p a1 a2 a3 a4 a5 a6 = true ↔ isWP b fr p a1 a2 a3 a4 a5 a6 := @decide_eq_true_iff _ (Classical.propDecidable _)
noncomputable def cmdN (b : Nat → Int32) (fr p : Nat) : Nat :=
  if isW b fr p 112 108 97 116 101 0 = true then 1 else if isW b fr p 114 101 97 100 0 0 = true then 2 else if isW b fr p 99 97 110 99 101 108 = true then 3 else if isW b fr p 115 101 116 0 0 0 = true then 4 else if isW b fr p 116 105 99 107 115 0 = true then 5 else 0
theorem cmdN_le (fr p : Nat) : cmdN b fr p ≤ 5 := by
  unfold cmdN
  split
  · decide
  · split
    · decide
    · split
      · decide
      · split
        · decide
        · split <;> decide
def needN (k : Nat) : Nat := [0, 2, 3, 1, 2, 1].getD k 0
noncomputable def numsF (n : Nat) (b : Nat → Int32) : Nat → Nat → Bool × Nat × List Int32
  | 0, p => (true, p, [])
  | m + 1, p => if (numF n b p).1 = true then ((numsF n b m (numF n b p).2.1).1, (numsF n b m (numF n b p).2.1).2.1, (numF n b p).2.2 :: (numsF n b m (numF n b p).2.1).2.2) else (false, (numF n b p).2.1, [])
/-- a command from p on: is there one, where it ends or what is at fault, its word, its numbers -/
noncomputable def cmdF (n : Nat) (b : Nat → Int32) (p : Nat) : Bool × Nat × Nat × List Int32 :=
  if cmdN b p (runE n b 97 122 p) = 0 then (false, p, 0, []) else
    if (numsF n b (needN (cmdN b p (runE n b 97 122 p))) (runE n b 97 122 p)).1 = true then
      if isA n b 59 59 (runE n b 32 32 (numsF n b (needN (cmdN b p (runE n b 97 122 p))) (runE n b 97 122 p)).2.1) = true then (true, runE n b 32 32 (runE n b 32 32 (numsF n b (needN (cmdN b p (runE n b 97 122 p))) (runE n b 97 122 p)).2.1 + 1), cmdN b p (runE n b 97 122 p), (numsF n b (needN (cmdN b p (runE n b 97 122 p))) (runE n b 97 122 p)).2.2)
      else (false, runE n b 32 32 (numsF n b (needN (cmdN b p (runE n b 97 122 p))) (runE n b 97 122 p)).2.1, cmdN b p (runE n b 97 122 p), [])
    else (false, (numsF n b (needN (cmdN b p (runE n b 97 122 p))) (runE n b 97 122 p)).2.1, cmdN b p (runE n b 97 122 p), [])
noncomputable def fltF (n : Nat) (b : Nat → Int32) : Nat → Nat → Int32
  | 0, _ => -1
  | d + 1, p => if p < n then (if (cmdF n b p).1 = true then fltF n b d (cmdF n b p).2.1 else nI (cmdF n b p).2.1) else -1
theorem numF_b {p : Nat} (hp : p ≤ n) : p ≤ (numF n b p).2.1 ∧ (numF n b p).2.1 ≤ n := by
  unfold numF
  split
  · have h1 := runE_ge (n := n) (b := b) (lo := 32) (hi := 32) p
    have h2 := runE_le (n := n) (b := b) (lo := 32) (hi := 32) hp
    have h3 := spn_ge (n := n) (b := b) (lo := 48) (hi := 57) 4 (runE n b 32 32 p)
    exact ⟨Nat.le_trans h1 h3, spn_le _ _ h2⟩
  · exact ⟨Nat.le_refl _, hp⟩
theorem numsF_b : ∀ (m p : Nat), p ≤ n → p ≤ (numsF n b m p).2.1 ∧ (numsF n b m p).2.1 ≤ n
  | 0, p, hp => ⟨Nat.le_refl _, hp⟩
  | m + 1, p, hp => by
    have h1 := numF_b (b := b) hp
    unfold numsF
    split
    · have h2 := numsF_b m _ h1.2
      exact ⟨Nat.le_trans h1.1 h2.1, h2.2⟩
    · exact h1
theorem numsF_len : ∀ (m p : Nat), (numsF n b m p).1 = true → (numsF n b m p).2.2.length = m
  | 0, p, _ => rfl
  | m + 1, p, h => by
    unfold numsF at h ⊢
    split at h
    · rename_i h1
      rw [if_pos h1]
      show (_ :: (numsF n b m (numF n b p).2.1).2.2).length = m + 1
      rw [List.length_cons, numsF_len m _ h]
    · cases h
theorem cmdF_b {p : Nat} (hp : p ≤ n) : p ≤ (cmdF n b p).2.1 ∧ (cmdF n b p).2.1 ≤ n ∧ ((cmdF n b p).1 = true → p < (cmdF n b p).2.1) ∧ (cmdF n b p).2.2.1 ≤ 5 ∧ ((cmdF n b p).1 = true → (cmdF n b p).2.2.2.length = needN (cmdF n b p).2.2.1 ∧ ¬ (cmdF n b p).2.2.1 = 0) := by
  have h1 := runE_ge (n := n) (b := b) (lo := 97) (hi := 122) p
  have h2 := runE_le (n := n) (b := b) (lo := 97) (hi := 122) hp
  have h3 := numsF_b (n := n) (b := b) (needN (cmdN b p (runE n b 97 122 p))) _ h2
  have h4 := runE_ge (n := n) (b := b) (lo := 32) (hi := 32) (numsF n b (needN (cmdN b p (runE n b 97 122 p))) (runE n b 97 122 p)).2.1
  have h5 := runE_le (n := n) (b := b) (lo := 32) (hi := 32) h3.2
  have h8 := cmdN_le (b := b) p (runE n b 97 122 p)
  unfold cmdF
  split
  · exact ⟨Nat.le_refl _, hp, fun z => (nomatch z), Nat.zero_le _, fun z => (nomatch z)⟩
  · rename_i hc
    split
    · rename_i hn
      split
      · rename_i h59
        have h6 := (isA_lt h59).1
        have h7 := runE_ge (n := n) (b := b) (lo := 32) (hi := 32) (runE n b 32 32 (numsF n b (needN (cmdN b p (runE n b 97 122 p))) (runE n b 97 122 p)).2.1 + 1)
        refine ⟨?_, runE_le h6, fun _ => ?_, h8, fun _ => ⟨numsF_len _ _ hn, hc⟩⟩
        · show p ≤ runE n b 32 32 _
          omega
        · show p < runE n b 32 32 _
          omega
      · refine ⟨?_, h5, fun z => (nomatch z), h8, fun z => (nomatch z)⟩
        show p ≤ runE n b 32 32 _
        omega
    · refine ⟨?_, h3.2, fun z => (nomatch z), h8, fun z => (nomatch z)⟩
      exact Nat.le_trans h1 h3.1
/-! the two words are one -/
def TB (len : Int32) (B b : Nat → Int32) (n : Nat) : Prop := len = nI n ∧ n ≤ 150 ∧ ∀ k, k < n → B k = b k
theorem byte_in (h : TB len B b n) {p : Nat} (hp : p < n) : byteV len B (nI p) = b p := by
  have h2 := h.2.1
  unfold byteV
  rw [if_neg (nI_pos (by omega)), if_pos (by rw [h.1]; exact nI_lt hp (by omega)), nI_clamp (by omega)]
  exact h.2.2 p hp
theorem hld_iff (h : TB len B b n) {u : UInt32} {fr p : Nat} (hfp : fr ≤ p) (hp : p ≤ n) : hldV len B fr p u = true ↔ p - fr = strN u ∧ ∀ j, j < strN u → b (fr + j) = strC u j := by
  have key : ∀ (d i : Nat), fr + i + d ≤ n → (holdsV len B u fr d i = true ↔ ∀ j, i ≤ j → j < i + d → b (fr + j) = strC u j) := by
    intro d
    induction d with
    | zero =>
      intro i hi
      exact ⟨fun _ j h1 h2 => by omega, fun _ => rfl⟩
    | succ d ih =>
      intro i hi
      have e : holdsV len B u fr (d + 1) i = if b (fr + i) = strC u i then holdsV len B u fr d (i + 1) else false := by
        show (if byteV len B (nI (fr + i)) = strC u i then holdsV len B u fr d (i + 1) else false) = _
        rw [byte_in h (show fr + i < n by omega)]
      rw [e]
      by_cases hc : b (fr + i) = strC u i
      · rw [if_pos hc, ih (i + 1) (by omega)]
        constructor
        · intro hj j h1 h2
          by_cases hji : j = i
          · rw [hji]; exact hc
          · exact hj j (by omega) (by omega)
        · intro hj j h1 h2
          exact hj j (by omega) (by omega)
      · rw [if_neg hc]
        exact ⟨fun z => (nomatch z), fun hj => absurd (hj i (Nat.le_refl _) (by omega)) hc⟩
  unfold hldV
  by_cases hl : p - fr = strN u
  · rw [if_pos hl, key (strN u) 0 (by omega)]
    exact ⟨fun hj => ⟨hl, fun j hj2 => hj j (Nat.zero_le _) (by omega)⟩, fun hj j _ h2 => hj.2 j (by omega)⟩
  · rw [if_neg hl]
    exact ⟨fun z => (nomatch z), fun z => absurd z.1 hl⟩
theorem all3 {P : Nat → Prop} : (∀ j, j < 3 → P j) ↔ P 0 ∧ P 1 ∧ P 2 :=
  ⟨fun h => ⟨h 0 (by decide), h 1 (by decide), h 2 (by decide)⟩, fun h j hj => by
    match j, hj with
    | 0, _ => exact h.1
    | 1, _ => exact h.2.1
    | 2, _ => exact h.2.2⟩
theorem all4 {P : Nat → Prop} : (∀ j, j < 4 → P j) ↔ P 0 ∧ P 1 ∧ P 2 ∧ P 3 :=
  ⟨fun h => ⟨h 0 (by decide), h 1 (by decide), h 2 (by decide), h 3 (by decide)⟩, fun h j hj => by
    match j, hj with
    | 0, _ => exact h.1
    | 1, _ => exact h.2.1
    | 2, _ => exact h.2.2.1
    | 3, _ => exact h.2.2.2⟩
theorem all5 {P : Nat → Prop} : (∀ j, j < 5 → P j) ↔ P 0 ∧ P 1 ∧ P 2 ∧ P 3 ∧ P 4 :=
  ⟨fun h => ⟨h 0 (by decide), h 1 (by decide), h 2 (by decide), h 3 (by decide), h 4 (by decide)⟩, fun h j hj => by
    match j, hj with
    | 0, _ => exact h.1
    | 1, _ => exact h.2.1
    | 2, _ => exact h.2.2.1
    | 3, _ => exact h.2.2.2.1
    | 4, _ => exact h.2.2.2.2⟩
theorem all6 {P : Nat → Prop} : (∀ j, j < 6 → P j) ↔ P 0 ∧ P 1 ∧ P 2 ∧ P 3 ∧ P 4 ∧ P 5 :=
  ⟨fun h => ⟨h 0 (by decide), h 1 (by decide), h 2 (by decide), h 3 (by decide), h 4 (by decide), h 5 (by decide)⟩, fun h j hj => by
    match j, hj with
    | 0, _ => exact h.1
    | 1, _ => exact h.2.1
    | 2, _ => exact h.2.2.1
    | 3, _ => exact h.2.2.2.1
    | 4, _ => exact h.2.2.2.2.1
    | 5, _ => exact h.2.2.2.2.2⟩
theorem lw3 {p : Prop} : (4 ≤ 3 → p) := fun h => absurd h (by decide)
theorem bool_eq {x y : Bool} (h : x = true ↔ y = true) : x = y := by
  cases x <;> cases y
  · rfl
  · exact absurd (h.mpr rfl) (by decide)
  · exact absurd (h.mp rfl) (by decide)
  · rfl
theorem hld_7 (h : TB len B b n) {fr p : Nat} (hfp : fr ≤ p) (hp : p ≤ n) : hldV len B fr p 7 = isW b fr p 112 108 97 116 101 0 := by
  refine bool_eq ?_
  have e : lenW 116 101 0 = 5 := by decide
  rw [hld_iff h hfp hp, isW_iff]
  unfold isWP
  rw [e, show strN 7 = 5 from rfl, all5]
  exact ⟨fun ⟨q, q0, q1, q2, q3, q4⟩ => ⟨q, q0, q1, q2, fun _ => q3, fun _ => q4, fun z => absurd z (by decide)⟩, fun ⟨q, q0, q1, q2, q3, q4, _⟩ => ⟨q, q0, q1, q2, q3 (by decide), q4 (by decide)⟩⟩
theorem hld_8 (h : TB len B b n) {fr p : Nat} (hfp : fr ≤ p) (hp : p ≤ n) : hldV len B fr p 8 = isW b fr p 114 101 97 100 0 0 := by
  refine bool_eq ?_
  have e : lenW 100 0 0 = 4 := by decide
  rw [hld_iff h hfp hp, isW_iff]
  unfold isWP
  rw [e, show strN 8 = 4 from rfl, all4]
  exact ⟨fun ⟨q, q0, q1, q2, q3⟩ => ⟨q, q0, q1, q2, fun _ => q3, fun z => absurd z (by decide), fun z => absurd z (by decide)⟩, fun ⟨q, q0, q1, q2, q3, _, _⟩ => ⟨q, q0, q1, q2, q3 (by decide)⟩⟩
theorem hld_9 (h : TB len B b n) {fr p : Nat} (hfp : fr ≤ p) (hp : p ≤ n) : hldV len B fr p 9 = isW b fr p 99 97 110 99 101 108 := by
  refine bool_eq ?_
  have e : lenW 99 101 108 = 6 := by decide
  rw [hld_iff h hfp hp, isW_iff]
  unfold isWP
  rw [e, show strN 9 = 6 from rfl, all6]
  exact ⟨fun ⟨q, q0, q1, q2, q3, q4, q5⟩ => ⟨q, q0, q1, q2, fun _ => q3, fun _ => q4, fun _ => q5⟩, fun ⟨q, q0, q1, q2, q3, q4, q5⟩ => ⟨q, q0, q1, q2, q3 (by decide), q4 (by decide), q5 (by decide)⟩⟩
theorem hld_10 (h : TB len B b n) {fr p : Nat} (hfp : fr ≤ p) (hp : p ≤ n) : hldV len B fr p 10 = isW b fr p 115 101 116 0 0 0 := by
  refine bool_eq ?_
  have e : lenW 0 0 0 = 3 := by decide
  rw [hld_iff h hfp hp, isW_iff]
  unfold isWP
  rw [e, show strN 10 = 3 from rfl, all3]
  exact ⟨fun ⟨q, q0, q1, q2⟩ => ⟨q, q0, q1, q2, fun z => absurd z (by decide), fun z => absurd z (by decide), fun z => absurd z (by decide)⟩, fun ⟨q, q0, q1, q2, _⟩ => ⟨q, q0, q1, q2⟩⟩
theorem hld_11 (h : TB len B b n) {fr p : Nat} (hfp : fr ≤ p) (hp : p ≤ n) : hldV len B fr p 11 = isW b fr p 116 105 99 107 115 0 := by
  refine bool_eq ?_
  have e : lenW 107 115 0 = 5 := by decide
  rw [hld_iff h hfp hp, isW_iff]
  unfold isWP
  rw [e, show strN 11 = 5 from rfl, all5]
  exact ⟨fun ⟨q, q0, q1, q2, q3, q4⟩ => ⟨q, q0, q1, q2, fun _ => q3, fun _ => q4, fun z => absurd z (by decide)⟩, fun ⟨q, q0, q1, q2, q3, q4, _⟩ => ⟨q, q0, q1, q2, q3 (by decide), q4 (by decide)⟩⟩
theorem lenW_3 (d e f : Int32) : 3 ≤ lenW d e f := by
  unfold lenW
  split
  · decide
  · split
    · decide
    · split <;> decide
theorem isW_0 {p : Nat} {a1 a2 a3 a4 a5 a6 : Int32} : isW b p p a1 a2 a3 a4 a5 a6 = false := isW_f fun h => by
  have h1 := h.1
  have := lenW_3 a4 a5 a6
  omega
theorem cmdN_0 {p : Nat} : cmdN b p p = 0 := by
  unfold cmdN
  rw [isW_0, isW_0, isW_0, isW_0, isW_0]
  rfl
theorem word_eq (h : TB len B b n) {fr p : Nat} (hfp : fr ≤ p) (hp : p ≤ n) : wordV len B fr p = UInt32.ofNat (cmdN b fr p) := by
  unfold wordV
  rw [hld_7 h hfp hp, hld_8 h hfp hp, hld_9 h hfp hp, hld_10 h hfp hp, hld_11 h hfp hp]
  by_cases h0 : hldV len B fr p 6 = true
  · rw [if_pos h0]
    have h1 := ((hld_iff h hfp hp).mp h0).1
    rw [show strN 6 = 0 from rfl] at h1
    rw [show p = fr by omega, cmdN_0]
    rfl
  · rw [if_neg h0]
    unfold cmdN
    split
    · rfl
    · split
      · rfl
      · split
        · rfl
        · split
          · rfl
          · split <;> rfl
