/-! ===== the word of a command ===== -/
variable {Q : AQ}
def hldV (len : Int32) (B : Nat → Int32) (fr en : Nat) (u : UInt32) : Bool := if en - fr = strN u then holdsV len B u fr (strN u) 0 else false
def wordV (len : Int32) (B : Nat → Int32) (fr en : Nat) : UInt32 := if hldV len B fr en 6 = true then 0 else if hldV len B fr en 7 = true then 1 else if hldV len B fr en 8 = true then 2 else if hldV len B fr en 9 = true then 3 else if hldV len B fr en 10 = true then 4 else if hldV len B fr en 11 = true then 5 else 0
set_option maxRecDepth 20000 in
theorem c_wordIn {len fv ev : Int32} {B : Nat → Int32} {fr en : Nat} (hl : len.toInt ≤ 150) (hf : fv = nI fr) (he : ev = nI en) (hfe : fr ≤ en) (hen : en ≤ 200) (hQ : Q (.inl (some (.float (wordV len B fr en)))) (tcW 0 len B)) : Tr tX2_wordIn 0 0 [.ref 0, .int fv, .int ev] (tcW 0 len B) Q := by
  refine Tr.of sX2_wordIn (by decide +kernel) (Nat.le_of_ble_eq_true rfl) fun X hX => ?_
  unfold wordV at hQ
  have s6 : Q (.inl (some (.float 0))) (tcW 0 len B) → X 2 [some (.ref 0), some (.int fv), some (.int ev), some (.int 6)] [] (tcW 0 len B) (0, 0) := by
    intro hq
    refine go hX (fun _ => none) 40 ?_
    exact And.intro (fun _ => hq) (fun z => absurd (by decide) z)
  have s5 : Q (.inl (some (.float (if hldV len B fr en 11 = true then 5 else (0 : UInt32))))) (tcW 0 len B) → X 2 [some (.ref 0), some (.int fv), some (.int ev), some (.int 5)] [] (tcW 0 len B) (0, 0) := by
    intro hq
    refine go hX (fun pc => if pc = 2 then some 4 else none) 40 ?_
    refine And.intro (fun z => absurd z (by decide)) (fun _ => ⟨in_lit (by decide), ?_⟩)
    refine c_holds (u := 11) (by simp [SixW]) hl hf he hfe hen ?_
    cases hb : hldV len B fr en 11 with
    | true =>
      rw [if_pos hb] at hq
      rw [show (if en - fr = strN 11 then holdsV len B 11 fr (strN 11) 0 else false) = true from hb]
      exact And.intro (fun z => absurd z (by decide)) (fun _ => ⟨in_lit (by decide), hq⟩)
    | false =>
      rw [if_neg (by rw [hb]; decide)] at hq
      rw [show (if en - fr = strN 11 then holdsV len B 11 fr (strN 11) 0 else false) = false from hb]
      exact And.intro (fun _ => s6 hq) (fun z => absurd rfl z)
  have s4 : Q (.inl (some (.float (if hldV len B fr en 10 = true then 4 else (if hldV len B fr en 11 = true then 5 else (0 : UInt32)))))) (tcW 0 len B) → X 2 [some (.ref 0), some (.int fv), some (.int ev), some (.int 4)] [] (tcW 0 len B) (0, 0) := by
    intro hq
    refine go hX (fun pc => if pc = 2 then some 4 else none) 40 ?_
    refine And.intro (fun z => absurd z (by decide)) (fun _ => ⟨in_lit (by decide), ?_⟩)
    refine c_holds (u := 10) (by simp [SixW]) hl hf he hfe hen ?_
    cases hb : hldV len B fr en 10 with
    | true =>
      rw [if_pos hb] at hq
      rw [show (if en - fr = strN 10 then holdsV len B 10 fr (strN 10) 0 else false) = true from hb]
      exact And.intro (fun z => absurd z (by decide)) (fun _ => ⟨in_lit (by decide), hq⟩)
    | false =>
      rw [if_neg (by rw [hb]; decide)] at hq
      rw [show (if en - fr = strN 10 then holdsV len B 10 fr (strN 10) 0 else false) = false from hb]
      exact And.intro (fun _ => s5 hq) (fun z => absurd rfl z)
  have s3 : Q (.inl (some (.float (if hldV len B fr en 9 = true then 3 else (if hldV len B fr en 10 = true then 4 else (if hldV len B fr en 11 = true then 5 else (0 : UInt32))))))) (tcW 0 len B) → X 2 [some (.ref 0), some (.int fv), some (.int ev), some (.int 3)] [] (tcW 0 len B) (0, 0) := by
    intro hq
    refine go hX (fun pc => if pc = 2 then some 4 else none) 40 ?_
    refine And.intro (fun z => absurd z (by decide)) (fun _ => ⟨in_lit (by decide), ?_⟩)
    refine c_holds (u := 9) (by simp [SixW]) hl hf he hfe hen ?_
    cases hb : hldV len B fr en 9 with
    | true =>
      rw [if_pos hb] at hq
      rw [show (if en - fr = strN 9 then holdsV len B 9 fr (strN 9) 0 else false) = true from hb]
      exact And.intro (fun z => absurd z (by decide)) (fun _ => ⟨in_lit (by decide), hq⟩)
    | false =>
      rw [if_neg (by rw [hb]; decide)] at hq
      rw [show (if en - fr = strN 9 then holdsV len B 9 fr (strN 9) 0 else false) = false from hb]
      exact And.intro (fun _ => s4 hq) (fun z => absurd rfl z)
  have s2 : Q (.inl (some (.float (if hldV len B fr en 8 = true then 2 else (if hldV len B fr en 9 = true then 3 else (if hldV len B fr en 10 = true then 4 else (if hldV len B fr en 11 = true then 5 else (0 : UInt32)))))))) (tcW 0 len B) → X 2 [some (.ref 0), some (.int fv), some (.int ev), some (.int 2)] [] (tcW 0 len B) (0, 0) := by
    intro hq
    refine go hX (fun pc => if pc = 2 then some 4 else none) 40 ?_
    refine And.intro (fun z => absurd z (by decide)) (fun _ => ⟨in_lit (by decide), ?_⟩)
    refine c_holds (u := 8) (by simp [SixW]) hl hf he hfe hen ?_
    cases hb : hldV len B fr en 8 with
    | true =>
      rw [if_pos hb] at hq
      rw [show (if en - fr = strN 8 then holdsV len B 8 fr (strN 8) 0 else false) = true from hb]
      exact And.intro (fun z => absurd z (by decide)) (fun _ => ⟨in_lit (by decide), hq⟩)
    | false =>
      rw [if_neg (by rw [hb]; decide)] at hq
      rw [show (if en - fr = strN 8 then holdsV len B 8 fr (strN 8) 0 else false) = false from hb]
      exact And.intro (fun _ => s3 hq) (fun z => absurd rfl z)
  have s1 : Q (.inl (some (.float (if hldV len B fr en 7 = true then 1 else (if hldV len B fr en 8 = true then 2 else (if hldV len B fr en 9 = true then 3 else (if hldV len B fr en 10 = true then 4 else (if hldV len B fr en 11 = true then 5 else (0 : UInt32))))))))) (tcW 0 len B) → X 2 [some (.ref 0), some (.int fv), some (.int ev), some (.int 1)] [] (tcW 0 len B) (0, 0) := by
    intro hq
    refine go hX (fun pc => if pc = 2 then some 4 else none) 40 ?_
    refine And.intro (fun z => absurd z (by decide)) (fun _ => ⟨in_lit (by decide), ?_⟩)
    refine c_holds (u := 7) (by simp [SixW]) hl hf he hfe hen ?_
    cases hb : hldV len B fr en 7 with
    | true =>
      rw [if_pos hb] at hq
      rw [show (if en - fr = strN 7 then holdsV len B 7 fr (strN 7) 0 else false) = true from hb]
      exact And.intro (fun z => absurd z (by decide)) (fun _ => ⟨in_lit (by decide), hq⟩)
    | false =>
      rw [if_neg (by rw [hb]; decide)] at hq
      rw [show (if en - fr = strN 7 then holdsV len B 7 fr (strN 7) 0 else false) = false from hb]
      exact And.intro (fun _ => s2 hq) (fun z => absurd rfl z)
  have s0 : Q (.inl (some (.float (if hldV len B fr en 6 = true then 0 else (if hldV len B fr en 7 = true then 1 else (if hldV len B fr en 8 = true then 2 else (if hldV len B fr en 9 = true then 3 else (if hldV len B fr en 10 = true then 4 else (if hldV len B fr en 11 = true then 5 else (0 : UInt32)))))))))) (tcW 0 len B) → X 2 [some (.ref 0), some (.int fv), some (.int ev), some (.int 0)] [] (tcW 0 len B) (0, 0) := by
    intro hq
    refine go hX (fun pc => if pc = 2 then some 4 else none) 40 ?_
    refine And.intro (fun z => absurd z (by decide)) (fun _ => ⟨in_lit (by decide), ?_⟩)
    refine c_holds (u := 6) (by simp [SixW]) hl hf he hfe hen ?_
    cases hb : hldV len B fr en 6 with
    | true =>
      rw [if_pos hb] at hq
      rw [show (if en - fr = strN 6 then holdsV len B 6 fr (strN 6) 0 else false) = true from hb]
      exact And.intro (fun z => absurd z (by decide)) (fun _ => ⟨in_lit (by decide), hq⟩)
    | false =>
      rw [if_neg (by rw [hb]; decide)] at hq
      rw [show (if en - fr = strN 6 then holdsV len B 6 fr (strN 6) 0 else false) = false from hb]
      exact And.intro (fun _ => s1 hq) (fun z => absurd rfl z)
  refine go hX (fun pc => if pc = 2 then some 4 else none) 40 ?_
  exact s0 hQ
