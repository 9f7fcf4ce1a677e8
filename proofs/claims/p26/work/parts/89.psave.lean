/-! ===== PlateArm: saving and undoing ===== -/
variable {Q : AQ} {mc ms T : Nat} {sc len : Int32} {S L B : Nat → Int32} {R fc : Nat → Nat → Int32} {s : Sg} {c : Scn} {f : Nat → Option Nat} {tw : Wd} {wn : Nat → Wd}
def wins (wn : Nat → Wd) : AM := stW 35 (wn 0) ++ (stW 47 (wn 1) ++ (stW 59 (wn 2) ++ stW 71 (wn 3)))
def WdOk (T : Nat) (x : Sg) (w : Wd) : Prop := w.1 = x.1 ∧ w.2.1 = nI x.2.1.length ∧ CS T x w.2.2.1 w.2.2.2.1 w.2.2.2.2
def SvR (T : Nat) (f : Nat → Option Nat) (wn : Nat → Wd) (ps : List Sg) : Prop := ∃ r, r < 4 ∧ (∀ j, j < 4 → f j = some (35 + 12 * ((r + j) % 4))) ∧ ∀ (j : Nat) (x : Sg), ps[j]? = some x → WdOk T x (wn ((r + j) % 4))
def eW0 : List Nat := [35, 36, 37, 38, 39, 40, 41, 42, 43, 44, 45, 46, 1, 2, 3, 4, 5, 6, 7, 8, 9, 10, 11, 12]
def pW0 : List (Option Nat) := [none, some 12, some 13, some 14, some 15, some 16, some 17, some 18, some 19, some 20, some 21, some 22, some 23, none, none, none, none, none, none, none, none, none, none, none, none, none, none, none, none, none, none, none, none, none, none, some 0, some 1, some 2, some 3, some 4, some 5, some 6, some 7, some 8, some 9, some 10, some 11]
def eW1 : List Nat := [47, 48, 49, 50, 51, 52, 53, 54, 55, 56, 57, 58, 1, 2, 3, 4, 5, 6, 7, 8, 9, 10, 11, 12]
def pW1 : List (Option Nat) := [none, some 12, some 13, some 14, some 15, some 16, some 17, some 18, some 19, some 20, some 21, some 22, some 23, none, none, none, none, none, none, none, none, none, none, none, none, none, none, none, none, none, none, none, none, none, none, none, none, none, none, none, none, none, none, none, none, none, none, some 0, some 1, some 2, some 3, some 4, some 5, some 6, some 7, some 8, some 9, some 10, some 11]
def eW2 : List Nat := [59, 60, 61, 62, 63, 64, 65, 66, 67, 68, 69, 70, 1, 2, 3, 4, 5, 6, 7, 8, 9, 10, 11, 12]
def pW2 : List (Option Nat) := [none, some 12, some 13, some 14, some 15, some 16, some 17, some 18, some 19, some 20, some 21, some 22, some 23, none, none, none, none, none, none, none, none, none, none, none, none, none, none, none, none, none, none, none, none, none, none, none, none, none, none, none, none, none, none, none, none, none, none, none, none, none, none, none, none, none, none, none, none, none, none, some 0, some 1, some 2, some 3, some 4, some 5, some 6, some 7, some 8, some 9, some 10, some 11]
def eW3 : List Nat := [71, 72, 73, 74, 75, 76, 77, 78, 79, 80, 81, 82, 1, 2, 3, 4, 5, 6, 7, 8, 9, 10, 11, 12]
def pW3 : List (Option Nat) := [none, some 12, some 13, some 14, some 15, some 16, some 17, some 18, some 19, some 20, some 21, some 22, some 23, none, none, none, none, none, none, none, none, none, none, none, none, none, none, none, none, none, none, none, none, none, none, none, none, none, none, none, none, none, none, none, none, none, none, none, none, none, none, none, none, none, none, none, none, none, none, none, none, none, none, none, none, none, none, none, none, none, none, some 0, some 1, some 2, some 3, some 4, some 5, some 6, some 7, some 8, some 9, some 10, some 11]
set_option maxRecDepth 20000 in
theorem p_drop_0 (h0 : f 0 = some 35) (h1 : f 1 = some 47) (h2 : f 2 = some 59) (h3 : f 3 = some 71) (hQ : ∀ f1, f1 0 = f 1 → f1 1 = f 2 → f1 2 = f 3 → f1 3 = f 0 → Q (.inl none) (p5 3 s S R L tw f1 fc len B c (wins wn))) : Tr tX9_dropOldest mc ms [.ref 0] (p5 sc s S R L tw f fc len B c (wins wn)) Q := by
  refine Tr.of sX9_dropOldest (by decide +kernel) (Nat.le_of_ble_eq_true rfl) fun X hX => ?_
  have p34 : ∀ f1 : Nat → Option Nat, f1 0 = f 1 → f1 1 = f 2 → f1 2 = f 3 → X 34 [some (.ref 0), some (.ref 35), some (.int 4)] [] (p5 sc s S R L tw f1 fc len B c (wins wn)) (mc, ms) := by
    intro f1 a0 a1 a2
    refine go hX (fun _ => none) 40 ?_
    refine ⟨in_lit (by decide), ?_⟩
    exact hQ (va_up f1 3 (some 35)) a0 a1 a2 h0.symm
  have p9c : ∀ f1 : Nat → Option Nat, f1 0 = f 1 → f1 1 = f 2 → f1 3 = f 3 → X 9 [some (.ref 0), some (.ref 35), some (.int 3)] [] (p5 sc s S R L tw f1 fc len B c (wins wn)) (mc, ms) := by
    intro f1 a0 a1 a3
    refine go hX (fun pc => if pc = 9 then some 3 else none) 40 ?_
    refine And.intro (fun z => absurd z (by decide)) (fun _ => ⟨in_lit (by decide), 71, a3.trans h3, in_lit (by decide), ?_⟩)
    refine go hX (fun pc => if pc = 34 then some 3 else none) 40 ?_
    refine And.intro (fun _ => ?_) (fun z => absurd (by decide) z)
    exact p34 (va_up f1 2 (some 71)) a0 a1 h3.symm
  have p9b : ∀ f1 : Nat → Option Nat, f1 0 = f 1 → f1 2 = f 2 → f1 3 = f 3 → X 9 [some (.ref 0), some (.ref 35), some (.int 2)] [] (p5 sc s S R L tw f1 fc len B c (wins wn)) (mc, ms) := by
    intro f1 a0 a2 a3
    refine go hX (fun pc => if pc = 9 then some 3 else none) 40 ?_
    refine And.intro (fun z => absurd z (by decide)) (fun _ => ⟨in_lit (by decide), 59, a2.trans h2, in_lit (by decide), ?_⟩)
    exact p9c (va_up f1 1 (some 59)) a0 h2.symm a3
  have p9a : X 9 [some (.ref 0), some (.ref 35), some (.int 1)] [] (p5 sc s S R L tw f fc len B c (wins wn)) (mc, ms) := by
    refine go hX (fun pc => if pc = 9 then some 3 else none) 40 ?_
    refine And.intro (fun z => absurd z (by decide)) (fun _ => ⟨in_lit (by decide), 47, h1, in_lit (by decide), ?_⟩)
    exact p9b (va_up f 0 (some 47)) h1.symm rfl rfl
  refine go hX (fun pc => if pc = 9 then some 3 else none) 40 ?_
  refine ⟨in_lit (by decide), 35, h0, ?_⟩
  exact p9a
set_option maxRecDepth 20000 in
theorem p_drop_1 (h0 : f 0 = some 47) (h1 : f 1 = some 59) (h2 : f 2 = some 71) (h3 : f 3 = some 35) (hQ : ∀ f1, f1 0 = f 1 → f1 1 = f 2 → f1 2 = f 3 → f1 3 = f 0 → Q (.inl none) (p5 3 s S R L tw f1 fc len B c (wins wn))) : Tr tX9_dropOldest mc ms [.ref 0] (p5 sc s S R L tw f fc len B c (wins wn)) Q := by
  refine Tr.of sX9_dropOldest (by decide +kernel) (Nat.le_of_ble_eq_true rfl) fun X hX => ?_
  have p34 : ∀ f1 : Nat → Option Nat, f1 0 = f 1 → f1 1 = f 2 → f1 2 = f 3 → X 34 [some (.ref 0), some (.ref 47), some (.int 4)] [] (p5 sc s S R L tw f1 fc len B c (wins wn)) (mc, ms) := by
    intro f1 a0 a1 a2
    refine go hX (fun _ => none) 40 ?_
    refine ⟨in_lit (by decide), ?_⟩
    exact hQ (va_up f1 3 (some 47)) a0 a1 a2 h0.symm
  have p9c : ∀ f1 : Nat → Option Nat, f1 0 = f 1 → f1 1 = f 2 → f1 3 = f 3 → X 9 [some (.ref 0), some (.ref 47), some (.int 3)] [] (p5 sc s S R L tw f1 fc len B c (wins wn)) (mc, ms) := by
    intro f1 a0 a1 a3
    refine go hX (fun pc => if pc = 9 then some 3 else none) 40 ?_
    refine And.intro (fun z => absurd z (by decide)) (fun _ => ⟨in_lit (by decide), 35, a3.trans h3, in_lit (by decide), ?_⟩)
    refine go hX (fun pc => if pc = 34 then some 3 else none) 40 ?_
    refine And.intro (fun _ => ?_) (fun z => absurd (by decide) z)
    exact p34 (va_up f1 2 (some 35)) a0 a1 h3.symm
  have p9b : ∀ f1 : Nat → Option Nat, f1 0 = f 1 → f1 2 = f 2 → f1 3 = f 3 → X 9 [some (.ref 0), some (.ref 47), some (.int 2)] [] (p5 sc s S R L tw f1 fc len B c (wins wn)) (mc, ms) := by
    intro f1 a0 a2 a3
    refine go hX (fun pc => if pc = 9 then some 3 else none) 40 ?_
    refine And.intro (fun z => absurd z (by decide)) (fun _ => ⟨in_lit (by decide), 71, a2.trans h2, in_lit (by decide), ?_⟩)
    exact p9c (va_up f1 1 (some 71)) a0 h2.symm a3
  have p9a : X 9 [some (.ref 0), some (.ref 47), some (.int 1)] [] (p5 sc s S R L tw f fc len B c (wins wn)) (mc, ms) := by
    refine go hX (fun pc => if pc = 9 then some 3 else none) 40 ?_
    refine And.intro (fun z => absurd z (by decide)) (fun _ => ⟨in_lit (by decide), 59, h1, in_lit (by decide), ?_⟩)
    exact p9b (va_up f 0 (some 59)) h1.symm rfl rfl
  refine go hX (fun pc => if pc = 9 then some 3 else none) 40 ?_
  refine ⟨in_lit (by decide), 47, h0, ?_⟩
  exact p9a
set_option maxRecDepth 20000 in
theorem p_drop_2 (h0 : f 0 = some 59) (h1 : f 1 = some 71) (h2 : f 2 = some 35) (h3 : f 3 = some 47) (hQ : ∀ f1, f1 0 = f 1 → f1 1 = f 2 → f1 2 = f 3 → f1 3 = f 0 → Q (.inl none) (p5 3 s S R L tw f1 fc len B c (wins wn))) : Tr tX9_dropOldest mc ms [.ref 0] (p5 sc s S R L tw f fc len B c (wins wn)) Q := by
  refine Tr.of sX9_dropOldest (by decide +kernel) (Nat.le_of_ble_eq_true rfl) fun X hX => ?_
  have p34 : ∀ f1 : Nat → Option Nat, f1 0 = f 1 → f1 1 = f 2 → f1 2 = f 3 → X 34 [some (.ref 0), some (.ref 59), some (.int 4)] [] (p5 sc s S R L tw f1 fc len B c (wins wn)) (mc, ms) := by
    intro f1 a0 a1 a2
    refine go hX (fun _ => none) 40 ?_
    refine ⟨in_lit (by decide), ?_⟩
    exact hQ (va_up f1 3 (some 59)) a0 a1 a2 h0.symm
  have p9c : ∀ f1 : Nat → Option Nat, f1 0 = f 1 → f1 1 = f 2 → f1 3 = f 3 → X 9 [some (.ref 0), some (.ref 59), some (.int 3)] [] (p5 sc s S R L tw f1 fc len B c (wins wn)) (mc, ms) := by
    intro f1 a0 a1 a3
    refine go hX (fun pc => if pc = 9 then some 3 else none) 40 ?_
    refine And.intro (fun z => absurd z (by decide)) (fun _ => ⟨in_lit (by decide), 47, a3.trans h3, in_lit (by decide), ?_⟩)
    refine go hX (fun pc => if pc = 34 then some 3 else none) 40 ?_
    refine And.intro (fun _ => ?_) (fun z => absurd (by decide) z)
    exact p34 (va_up f1 2 (some 47)) a0 a1 h3.symm
  have p9b : ∀ f1 : Nat → Option Nat, f1 0 = f 1 → f1 2 = f 2 → f1 3 = f 3 → X 9 [some (.ref 0), some (.ref 59), some (.int 2)] [] (p5 sc s S R L tw f1 fc len B c (wins wn)) (mc, ms) := by
    intro f1 a0 a2 a3
    refine go hX (fun pc => if pc = 9 then some 3 else none) 40 ?_
    refine And.intro (fun z => absurd z (by decide)) (fun _ => ⟨in_lit (by decide), 35, a2.trans h2, in_lit (by decide), ?_⟩)
    exact p9c (va_up f1 1 (some 35)) a0 h2.symm a3
  have p9a : X 9 [some (.ref 0), some (.ref 59), some (.int 1)] [] (p5 sc s S R L tw f fc len B c (wins wn)) (mc, ms) := by
    refine go hX (fun pc => if pc = 9 then some 3 else none) 40 ?_
    refine And.intro (fun z => absurd z (by decide)) (fun _ => ⟨in_lit (by decide), 71, h1, in_lit (by decide), ?_⟩)
    exact p9b (va_up f 0 (some 71)) h1.symm rfl rfl
  refine go hX (fun pc => if pc = 9 then some 3 else none) 40 ?_
  refine ⟨in_lit (by decide), 59, h0, ?_⟩
  exact p9a
set_option maxRecDepth 20000 in
theorem p_drop_3 (h0 : f 0 = some 71) (h1 : f 1 = some 35) (h2 : f 2 = some 47) (h3 : f 3 = some 59) (hQ : ∀ f1, f1 0 = f 1 → f1 1 = f 2 → f1 2 = f 3 → f1 3 = f 0 → Q (.inl none) (p5 3 s S R L tw f1 fc len B c (wins wn))) : Tr tX9_dropOldest mc ms [.ref 0] (p5 sc s S R L tw f fc len B c (wins wn)) Q := by
  refine Tr.of sX9_dropOldest (by decide +kernel) (Nat.le_of_ble_eq_true rfl) fun X hX => ?_
  have p34 : ∀ f1 : Nat → Option Nat, f1 0 = f 1 → f1 1 = f 2 → f1 2 = f 3 → X 34 [some (.ref 0), some (.ref 71), some (.int 4)] [] (p5 sc s S R L tw f1 fc len B c (wins wn)) (mc, ms) := by
    intro f1 a0 a1 a2
    refine go hX (fun _ => none) 40 ?_
    refine ⟨in_lit (by decide), ?_⟩
    exact hQ (va_up f1 3 (some 71)) a0 a1 a2 h0.symm
  have p9c : ∀ f1 : Nat → Option Nat, f1 0 = f 1 → f1 1 = f 2 → f1 3 = f 3 → X 9 [some (.ref 0), some (.ref 71), some (.int 3)] [] (p5 sc s S R L tw f1 fc len B c (wins wn)) (mc, ms) := by
    intro f1 a0 a1 a3
    refine go hX (fun pc => if pc = 9 then some 3 else none) 40 ?_
    refine And.intro (fun z => absurd z (by decide)) (fun _ => ⟨in_lit (by decide), 59, a3.trans h3, in_lit (by decide), ?_⟩)
    refine go hX (fun pc => if pc = 34 then some 3 else none) 40 ?_
    refine And.intro (fun _ => ?_) (fun z => absurd (by decide) z)
    exact p34 (va_up f1 2 (some 59)) a0 a1 h3.symm
  have p9b : ∀ f1 : Nat → Option Nat, f1 0 = f 1 → f1 2 = f 2 → f1 3 = f 3 → X 9 [some (.ref 0), some (.ref 71), some (.int 2)] [] (p5 sc s S R L tw f1 fc len B c (wins wn)) (mc, ms) := by
    intro f1 a0 a2 a3
    refine go hX (fun pc => if pc = 9 then some 3 else none) 40 ?_
    refine And.intro (fun z => absurd z (by decide)) (fun _ => ⟨in_lit (by decide), 47, a2.trans h2, in_lit (by decide), ?_⟩)
    exact p9c (va_up f1 1 (some 47)) a0 h2.symm a3
  have p9a : X 9 [some (.ref 0), some (.ref 71), some (.int 1)] [] (p5 sc s S R L tw f fc len B c (wins wn)) (mc, ms) := by
    refine go hX (fun pc => if pc = 9 then some 3 else none) 40 ?_
    refine And.intro (fun z => absurd z (by decide)) (fun _ => ⟨in_lit (by decide), 35, h1, in_lit (by decide), ?_⟩)
    exact p9b (va_up f 0 (some 35)) h1.symm rfl rfl
  refine go hX (fun pc => if pc = 9 then some 3 else none) 40 ?_
  refine ⟨in_lit (by decide), 71, h0, ?_⟩
  exact p9a
theorem p_drop {r : Nat} (hr : r < 4) (hf : ∀ j, j < 4 → f j = some (35 + 12 * ((r + j) % 4))) (hQ : ∀ f1, (∀ j, j < 4 → f1 j = some (35 + 12 * (((r + 1) % 4 + j) % 4))) → Q (.inl none) (p5 3 s S R L tw f1 fc len B c (wins wn))) : Tr tX9_dropOldest mc ms [.ref 0] (p5 sc s S R L tw f fc len B c (wins wn)) Q := by
  have hq : ∀ f1 : Nat → Option Nat, f1 0 = f 1 → f1 1 = f 2 → f1 2 = f 3 → f1 3 = f 0 → Q (.inl none) (p5 3 s S R L tw f1 fc len B c (wins wn)) := by
    intro f1 a0 a1 a2 a3
    refine hQ f1 (fun j hj => ?_)
    match j, hj with
    | 0, _ => rw [a0, hf 1 (by decide)]; congr 2; omega
    | 1, _ => rw [a1, hf 2 (by decide)]; congr 2; omega
    | 2, _ => rw [a2, hf 3 (by decide)]; congr 2; omega
    | 3, _ => rw [a3, hf 0 (by decide)]; congr 2; omega
  match r, hr with
  | 0, _ => exact p_drop_0 (hf 0 (by decide)) (hf 1 (by decide)) (hf 2 (by decide)) (hf 3 (by decide)) hq
  | 1, _ => exact p_drop_1 (hf 0 (by decide)) (hf 1 (by decide)) (hf 2 (by decide)) (hf 3 (by decide)) hq
  | 2, _ => exact p_drop_2 (hf 0 (by decide)) (hf 1 (by decide)) (hf 2 (by decide)) (hf 3 (by decide)) hq
  | 3, _ => exact p_drop_3 (hf 0 (by decide)) (hf 1 (by decide)) (hf 2 (by decide)) (hf 3 (by decide)) hq
theorem WdOk.mono {T1 : Nat} {x : Sg} {w : Wd} (h : WdOk T x w) (hT : T ≤ T1) : WdOk T1 x w := by
  obtain ⟨a, b, c1, c2, w1, t, d1, d2, d3, d4, d5⟩ := h
  exact ⟨a, b, c1, c2, w1, t, d1, d2, d3, Nat.le_trans d4 hT, d5⟩
theorem SvR.mono {T1 : Nat} {ps : List Sg} (h : SvR T f wn ps) (hT : T ≤ T1) : SvR T1 f wn ps := by
  obtain ⟨r, a, b, c⟩ := h
  exact ⟨r, a, b, fun j x hx => (c j x hx).mono hT⟩
theorem CS.mono {T1 : Nat} (h : CS T s S R L) (hT : T ≤ T1) : CS T1 s S R L := by
  obtain ⟨c1, c2, w1, t, d1, d2, d3, d4, d5⟩ := h
  exact ⟨c1, c2, w1, t, d1, d2, d3, Nat.le_trans d4 hT, d5⟩
theorem SvR.push {f1 : Nat → Option Nat} {wn1 : Nat → Wd} {ps : List Sg} {r w n : Nat} (hr : r < 4) (hf : ∀ j, j < 4 → f1 j = some (35 + 12 * ((r + j) % 4))) (hn : n = ps.length) (hn4 : n < 4) (hw : w = (r + n) % 4) (h0 : ∀ (j : Nat) (x : Sg), ps[j]? = some x → WdOk T x (wn ((r + j) % 4))) (h1 : WdOk T s (wn1 w)) (h2 : ∀ k, ¬ k = w → wn1 k = wn k) : SvR T f1 wn1 (ps ++ [s]) := by
  refine ⟨r, hr, hf, fun j x hx => ?_⟩
  rcases Nat.lt_or_ge j ps.length with hj | hj
  · rw [List.getElem?_append_left hj] at hx
    rw [h2 _ (by omega)]
    exact h0 j x hx
  · rw [List.getElem?_append_right hj] at hx
    have hl := (List.getElem?_eq_some_iff.mp hx).1
    rw [List.length_singleton] at hl
    rw [show j - ps.length = 0 by omega] at hx
    cases hx
    rw [show (r + j) % 4 = w by rw [hw, hn]; congr 2; omega]
    exact h1
set_option maxRecDepth 20000 in
theorem p_save {a : Kp} (hI : Inv T a.1) (hC : CS T a.1 S R L) (hs : sc = nI a.2.length) (hl : a.2.length ≤ 4) (hV : SvR T f wn a.2) (hQ : ∀ f1 wn1, SvR T f1 wn1 (pushS a.2 a.1) → Q (.inl none) (p5 (nI (pushS a.2 a.1).length) a.1 S R L tw f1 fc len B c (wins wn1))) : Tr tX9_save mc ms [.ref 0] (p5 sc a.1 S R L tw f fc len B c (wins wn)) Q := by
  obtain ⟨r, hr, hf, hps⟩ := hV
  refine Tr.of sX9_save (by decide +kernel) (Nat.le_of_ble_eq_true rfl) fun X hX => ?_
  have s12 : ∀ (n w : Nat) (nv : Int32) (f1 : Nat → Option Nat), n < 4 → w < 4 → nv = nI n → f1 n = some (35 + 12 * w) → (∀ wn1, WdOk T a.1 (wn1 w) → (∀ k, ¬ k = w → wn1 k = wn k) → Q (.inl none) (p5 (nv + 1) a.1 S R L tw f1 fc len B c (wins wn1))) → X 12 [some (.ref 0)] [] (p5 nv a.1 S R L tw f1 fc len B c (wins wn)) (mc, ms) := by
    intro n w nv f1 hn hw hnv hf1 hq
    have v0 : vp_in nv 4 := by rw [hnv]; exact in_nI hn (by decide)
    have v1 : nv.toNatClampNeg = n := by rw [hnv]; exact nI_c (by omega)
    rw [← v1] at hf1
    have hok : ∀ S2 R2 L2, (∀ j, j < 4 → S2 j = S j) → (∀ j, j < 5 → ∀ k, k < 12 → R2 j k = R j k) → (∀ k, k < 50 → L2 k = L k) → WdOk T a.1 (a.1.1, nI a.1.2.1.length, S2, R2, L2) := fun S2 R2 L2 a1 a2 a3 => ⟨rfl, rfl, cs_copy hC hI.2.1 a1 a2 a3⟩
    match w, hw with
    | 0, _ =>
      have fin : ∀ S2 R2 L2, (∀ j, j < 4 → S2 j = S j) → (∀ j, j < 5 → ∀ k, k < 12 → R2 j k = R j k) → (∀ k, k < 50 → L2 k = L k) → X 28 [some (.ref 0)] [] (p5 nv a.1 S R L tw f1 fc len B c (wins (fun k => if k = 0 then (a.1.1, nI a.1.2.1.length, S2, R2, L2) else wn k))) (mc, ms) := by
        intro S2 R2 L2 a1 a2 a3
        refine go hX (fun _ => none) 40 ?_
        exact hq (fun k => if k = 0 then (a.1.1, nI a.1.2.1.length, S2, R2, L2) else wn k) (by show WdOk T a.1 (if 0 = 0 then _ else _); rw [if_pos rfl]; exact hok S2 R2 L2 a1 a2 a3) (fun k hk => if_neg hk)
      refine go hX (fun pc => if pc = 28 then some 1 else none) 40 ?_
      refine ⟨v0, 35, hf1, ?_⟩
      refine Tr.ap eW0 pW0 (c_scopy (u := (wn 0).1) (n := (wn 0).2.1) (S := (wn 0).2.2.1) (R := (wn 0).2.2.2.1) (L := (wn 0).2.2.2.2) (u1 := a.1.1) (n1 := nI a.1.2.1.length) (S1 := S) (R1 := R) (L1 := L) hI.r01 (fun S2 R2 L2 a1 a2 a3 => ?_)) rfl rfl rfl rfl
      exact fin S2 R2 L2 a1 a2 a3
    | 1, _ =>
      have fin : ∀ S2 R2 L2, (∀ j, j < 4 → S2 j = S j) → (∀ j, j < 5 → ∀ k, k < 12 → R2 j k = R j k) → (∀ k, k < 50 → L2 k = L k) → X 28 [some (.ref 0)] [] (p5 nv a.1 S R L tw f1 fc len B c (wins (fun k => if k = 1 then (a.1.1, nI a.1.2.1.length, S2, R2, L2) else wn k))) (mc, ms) := by
        intro S2 R2 L2 a1 a2 a3
        refine go hX (fun _ => none) 40 ?_
        exact hq (fun k => if k = 1 then (a.1.1, nI a.1.2.1.length, S2, R2, L2) else wn k) (by show WdOk T a.1 (if 1 = 1 then _ else _); rw [if_pos rfl]; exact hok S2 R2 L2 a1 a2 a3) (fun k hk => if_neg hk)
      refine go hX (fun pc => if pc = 28 then some 1 else none) 40 ?_
      refine ⟨v0, 47, hf1, ?_⟩
      refine Tr.ap eW1 pW1 (c_scopy (u := (wn 1).1) (n := (wn 1).2.1) (S := (wn 1).2.2.1) (R := (wn 1).2.2.2.1) (L := (wn 1).2.2.2.2) (u1 := a.1.1) (n1 := nI a.1.2.1.length) (S1 := S) (R1 := R) (L1 := L) hI.r01 (fun S2 R2 L2 a1 a2 a3 => ?_)) rfl rfl rfl rfl
      exact fin S2 R2 L2 a1 a2 a3
    | 2, _ =>
      have fin : ∀ S2 R2 L2, (∀ j, j < 4 → S2 j = S j) → (∀ j, j < 5 → ∀ k, k < 12 → R2 j k = R j k) → (∀ k, k < 50 → L2 k = L k) → X 28 [some (.ref 0)] [] (p5 nv a.1 S R L tw f1 fc len B c (wins (fun k => if k = 2 then (a.1.1, nI a.1.2.1.length, S2, R2, L2) else wn k))) (mc, ms) := by
        intro S2 R2 L2 a1 a2 a3
        refine go hX (fun _ => none) 40 ?_
        exact hq (fun k => if k = 2 then (a.1.1, nI a.1.2.1.length, S2, R2, L2) else wn k) (by show WdOk T a.1 (if 2 = 2 then _ else _); rw [if_pos rfl]; exact hok S2 R2 L2 a1 a2 a3) (fun k hk => if_neg hk)
      refine go hX (fun pc => if pc = 28 then some 1 else none) 40 ?_
      refine ⟨v0, 59, hf1, ?_⟩
      refine Tr.ap eW2 pW2 (c_scopy (u := (wn 2).1) (n := (wn 2).2.1) (S := (wn 2).2.2.1) (R := (wn 2).2.2.2.1) (L := (wn 2).2.2.2.2) (u1 := a.1.1) (n1 := nI a.1.2.1.length) (S1 := S) (R1 := R) (L1 := L) hI.r01 (fun S2 R2 L2 a1 a2 a3 => ?_)) rfl rfl rfl rfl
      exact fin S2 R2 L2 a1 a2 a3
    | 3, _ =>
      have fin : ∀ S2 R2 L2, (∀ j, j < 4 → S2 j = S j) → (∀ j, j < 5 → ∀ k, k < 12 → R2 j k = R j k) → (∀ k, k < 50 → L2 k = L k) → X 28 [some (.ref 0)] [] (p5 nv a.1 S R L tw f1 fc len B c (wins (fun k => if k = 3 then (a.1.1, nI a.1.2.1.length, S2, R2, L2) else wn k))) (mc, ms) := by
        intro S2 R2 L2 a1 a2 a3
        refine go hX (fun _ => none) 40 ?_
        exact hq (fun k => if k = 3 then (a.1.1, nI a.1.2.1.length, S2, R2, L2) else wn k) (by show WdOk T a.1 (if 3 = 3 then _ else _); rw [if_pos rfl]; exact hok S2 R2 L2 a1 a2 a3) (fun k hk => if_neg hk)
      refine go hX (fun pc => if pc = 28 then some 1 else none) 40 ?_
      refine ⟨v0, 71, hf1, ?_⟩
      refine Tr.ap eW3 pW3 (c_scopy (u := (wn 3).1) (n := (wn 3).2.1) (S := (wn 3).2.2.1) (R := (wn 3).2.2.2.1) (L := (wn 3).2.2.2.2) (u1 := a.1.1) (n1 := nI a.1.2.1.length) (S1 := S) (R1 := R) (L1 := L) hI.r01 (fun S2 R2 L2 a1 a2 a3 => ?_)) rfl rfl rfl rfl
      exact fin S2 R2 L2 a1 a2 a3
  refine go hX (fun pc => if pc = 12 then some 1 else none) 40 ?_
  refine And.intro (fun h => ?_) (fun h => ?_)
  · have hn : a.2.length < 4 := by
      rcases Nat.lt_or_ge a.2.length 4 with z | z
      · exact z
      · exact absurd (show sc < 4 from h) (by rw [hs]; exact nI_nlt (b := 4) z (by omega))
    have hp : pushS a.2 a.1 = a.2 ++ [a.1] := if_neg (by omega)
    rw [hp, List.length_append, List.length_singleton] at hQ
    refine s12 a.2.length ((r + a.2.length) % 4) sc f hn (Nat.mod_lt _ (by decide)) hs (hf _ hn) (fun wn1 w1 w2 => ?_)
    rw [hs, nI_1]
    exact hQ f wn1 (SvR.push hr hf rfl hn rfl hps w1 w2)
  · have hn : a.2.length = 4 := by
      rcases Nat.lt_or_ge a.2.length 4 with z | z
      · exact absurd (show sc < 4 by rw [hs]; exact nI_lt (b := 4) z (by decide)) h
      · omega
    have hp : pushS a.2 a.1 = a.2.drop 1 ++ [a.1] := if_pos hn
    rw [hp, List.length_append, List.length_singleton, List.length_drop] at hQ
    refine p_drop hr hf (fun f1 hf1 => ?_)
    refine s12 3 (((r + 1) % 4 + 3) % 4) 3 f1 (by decide) (Nat.mod_lt _ (by decide)) rfl (hf1 3 (by decide)) (fun wn1 w1 w2 => ?_)
    have := hQ f1 wn1 (SvR.push (wn := wn) (Nat.mod_lt _ (by decide)) hf1 (by rw [List.length_drop]; omega) (by decide) rfl (fun j x hx => ?_) w1 w2)
    · rw [show a.2.length - 1 + 1 = 4 by omega] at this
      exact this
    · rw [List.getElem?_drop] at hx
      have := hps (1 + j) x hx
      rw [show ((r + 1) % 4 + j) % 4 = (r + (1 + j)) % 4 by omega]
      exact this
