/-! ===== p26's law: its arrays beside the mathematical state; the target ===== -/
variable {Q : AQ} {T : Nat} {s : Sg} {G Qa La : Nat → Int32} {M : AM}
def g3 (G Qa La : Nat → Int32) : AM := [.inl (0, 23, .inl G), .inl (0, 60, .inl Qa), .inl (0, 50, .inl La)]
def QOk (Qa : Nat → Int32) (rs : List Rq) : Prop := ∀ (k : Nat) (r : Rq), rs[k]? = some r → ∀ j, j < 5 → Qa (5 * k + j) = rf r j
def GOk (G : Nat → Int32) (s : Sg) : Prop := (∀ k, k < 21 → G k = s.1 k) ∧ G 21 = nI s.2.1.length ∧ G 22 = nI s.2.2.length
def TI (G Qa La : Nat → Int32) (s : Sg) : Prop := GOk G s ∧ QOk Qa s.2.1 ∧ QOk La s.2.2
theorem qx {i : Nat} (hi : i < 1000) : ∀ j : Nat, j < 5 → (5 : Int32) * nI i + nI j = nI (5 * i + j) := fun j hj => by
  rw [show (5 : Int32) = nI 5 from rfl, mul_nI, nI_add]
theorem qc {i j : Nat} (hi : i < 1000) (hj : j < 5) : ((5 : Int32) * nI i + nI j).toNatClampNeg = 5 * i + j := by rw [qx hi j hj]; exact nI_clamp (by omega)
theorem qv {i j N : Nat} (hi : i < 1000) (hj : j < 5) (hN : 5 * i + j < N) (hN2 : N ≤ 1000) : vp_in ((5 : Int32) * nI i + nI j) N := by rw [qx hi j hj]; exact in_nI hN (by omega)
set_option maxRecDepth 20000 in
theorem l_size {v : Int32} (hQ : Q (.inl (some (.int (sizeI v)))) M) : Tr tL_size 0 0 [.int v] M Q := by
  refine Tr.run sL_size (by decide +kernel) rfl 30 fun X => ?_
  unfold sizeI at hQ
  refine And.intro (fun h => ?_) (fun h => ?_)
  · rw [if_pos h] at hQ; exact hQ
  · rw [if_neg h] at hQ; exact hQ
def lits (G Qa : Nat → Int32) (way : Int32) (k : Nat) : Int32 := if way = 0 then 0 else if way = 3 then Qa (5 * k + 3) else sizeI (Qa (5 * k + 1) - G 16)
def lrk (G Qa : Nat → Int32) (way up : Int32) (k : Nat) : Int32 := if way = 1 then (if up = 1 then (if Qa (5 * k + 1) - G 16 < 0 then -1 else lits G Qa way k) else (if 0 < Qa (5 * k + 1) - G 16 then -1 else lits G Qa way k)) else lits G Qa way k
def fo (t : Int32) : Option Nat → Int32
  | none => -1
  | some b => nI b + (if t = 1 then 100 else 0)
def lst (F : Nat → Int32) : Option Nat → Int32
  | none => 999999
  | some b => F b
def ltgt (G Qa : Nat → Int32) (way : Int32) (n : Nat) : Int32 := match pick (lrk G Qa way (G 20)) n with
  | some b => nI b
  | none => fo 1 (pick (lrk G Qa way (3 - G 20)) n)
theorem lt_m1 : (-1 : Int32) < 0 := by decide
set_option maxRecDepth 20000 in
theorem l_target {way : Int32} {n : Nat} (h21 : G 21 = nI n) (hn : n ≤ 12) (hb : ∀ k, k < n → ¬ lits G Qa way k < 0 ∧ lits G Qa way k < 999999) (hQ : Q (.inl (some (.int (ltgt G Qa way n)))) (g3 G Qa La)) : Tr tL_target 0 0 [.ref 0, .ref 1, .int way] (g3 G Qa La) Q := by
  refine Tr.of sL_target (by decide +kernel) (Nat.le_of_ble_eq_true rfl) fun X hX => ?_
  have inner : ∀ (t up : Int32) (x7 x8 x9 x10 : Option Value), (∀ x7 x8 x9 x10, X 166 [some (.ref 0), some (.ref 1), some (.int way), some (.int (fo t (pick (lrk G Qa way up) n))), some (.int (lst (lrk G Qa way up) (pick (lrk G Qa way up) n))), some (.int t), some (.int up), x7, x8, x9, x10] [] (g3 G Qa La) (0, 0)) → X 39 [some (.ref 0), some (.ref 1), some (.int way), some (.int (-1)), some (.int 999999), some (.int t), some (.int up), x7, x8, x9, x10] [] (g3 G Qa La) (0, 0) := by
    intro t up x7 x8 x9 x10 hc
    have key : ∀ (d i : Nat) (x8 x9 x10 : Option Value), i + d = n → X 42 [some (.ref 0), some (.ref 1), some (.int way), some (.int (fo t (pick (lrk G Qa way up) i))), some (.int (lst (lrk G Qa way up) (pick (lrk G Qa way up) i))), some (.int t), some (.int up), some (.int (nI i)), x8, x9, x10] [] (g3 G Qa La) (0, 0) := by
      intro d
      induction d with
      | zero =>
        intro i x8 x9 x10 hi
        refine go hX (fun pc => if pc = 166 then some 11 else none) 40 ?_
        refine ⟨in_lit (by decide), And.intro (fun _ => ?_) (fun h => ?_)⟩
        · rw [show i = n by omega]
          exact hc _ _ _ _
        · exact absurd (show G 21 ≤ nI i by rw [h21, show i = n by omega]; exact Int32.le_refl _) h
      | succ d ih =>
        intro i x8 x9 x10 hi
        have hl : ¬ G 21 ≤ nI i := by rw [h21]; exact nI_ge (by omega) (by omega)
        obtain ⟨b1, b2⟩ := hb i (by omega)
        -- behind the choice
        have p160 : ∀ fv lv : Int32, fv = fo t (pick (lrk G Qa way up) (i + 1)) → lv = lst (lrk G Qa way up) (pick (lrk G Qa way up) (i + 1)) → ∀ x8 x9 x10, X 160 [some (.ref 0), some (.ref 1), some (.int way), some (.int fv), some (.int lv), some (.int t), some (.int up), some (.int (nI i)), x8, x9, x10] [] (g3 G Qa La) (0, 0) := by
          intro fv lv hf hl2 x8 x9 x10
          refine go hX (fun pc => if pc = 42 then some 11 else none) 40 ?_
          subst hf hl2
          have := ih (i + 1) x8 x9 x10 (by omega)
          rw [← nI_1] at this
          exact this
        have ep : pick (lrk G Qa way up) (i + 1) = (match pick (lrk G Qa way up) i with | none => if lrk G Qa way up i < 0 then none else some i | some b => if lrk G Qa way up i < 0 then some b else if lrk G Qa way up b ≤ lrk G Qa way up i then some b else some i) := rfl
        have pn : lrk G Qa way up i < 0 → pick (lrk G Qa way up) (i + 1) = pick (lrk G Qa way up) i := fun h => by
          rw [ep]
          cases pick (lrk G Qa way up) i with
          | none => exact if_pos h
          | some b => exact if_pos h
        have p126 : ∀ may its : Int32, ((may = 1 ∧ lrk G Qa way up i = its ∧ its = lits G Qa way i) ∨ (may = 0 ∧ lrk G Qa way up i < 0)) → ∀ x8 x10, X 126 [some (.ref 0), some (.ref 1), some (.int way), some (.int (fo t (pick (lrk G Qa way up) i))), some (.int (lst (lrk G Qa way up) (pick (lrk G Qa way up) i))), some (.int t), some (.int up), some (.int (nI i)), x8, some (.int its), x10] [.int may] (g3 G Qa La) (0, 0) := by
          intro may its hm x8 x10
          refine go hX (fun pc => if pc = 160 then some 11 else none) 40 ?_
          refine And.intro (fun h => ?_) (fun h => And.intro (fun h2 => ?_) (fun h2 => And.intro (fun h3 => ?_) (fun h3 => ?_)))
          · rcases hm with hm | hm
            · exact absurd h (by rw [hm.1]; decide)
            · exact p160 _ _ (by rw [pn hm.2]) (by rw [pn hm.2]) _ _ _
          · rcases hm with ⟨-, h4, h5⟩ | hm
            · have ge : ¬ lrk G Qa way up i < 0 := by rw [h4, h5]; exact b1
              have e : pick (lrk G Qa way up) (i + 1) = pick (lrk G Qa way up) i := by
                rw [ep]
                cases hp : pick (lrk G Qa way up) i with
                | none =>
                  rw [hp] at h2
                  have h2' : (999999 : Int32) ≤ its := h2
                  rw [h5] at h2'
                  exact absurd h2' (Int32.not_le.mpr b2)
                | some b =>
                  rw [hp] at h2
                  have h2' : lrk G Qa way up b ≤ its := h2
                  exact (if_neg ge).trans (if_pos (by rw [h4]; exact h2'))
              exact p160 _ _ (by rw [e]) (by rw [e]) _ _ _
            · exact absurd hm.1 h
          all_goals
            rcases hm with ⟨-, h4, h5⟩ | hm
            · have ge : ¬ lrk G Qa way up i < 0 := by rw [h4, h5]; exact b1
              have e : pick (lrk G Qa way up) (i + 1) = some i := by
                rw [ep]
                cases hp : pick (lrk G Qa way up) i with
                | none => exact if_neg ge
                | some b =>
                  rw [hp] at h2
                  have h2' : ¬ lrk G Qa way up b ≤ its := h2
                  exact (if_neg ge).trans (if_neg (by rw [h4]; exact h2'))
              refine p160 _ _ ?_ (by rw [e]; exact h4.symm) _ _ _
              rw [e]
              show _ = nI i + (if t = 1 then 100 else 0)
              first | rw [if_neg h3] | rw [if_pos h3]
            · exact absurd hm.1 h
        have p95 : ∀ by_ its : Int32, by_ = Qa (5 * i + 1) - G 16 → its = lits G Qa way i → ∀ x9 x10, X 95 [some (.ref 0), some (.ref 1), some (.int way), some (.int (fo t (pick (lrk G Qa way up) i))), some (.int (lst (lrk G Qa way up) (pick (lrk G Qa way up) i))), some (.int t), some (.int up), some (.int (nI i)), some (.int by_), x9, x10] [.int its] (g3 G Qa La) (0, 0) := by
          intro by_ its h1 h2 x9 x10
          have er : lrk G Qa way up i = if way = 1 then (if up = 1 then (if by_ < 0 then -1 else its) else (if 0 < by_ then -1 else its)) else its := by rw [h1, h2]; rfl
          refine go hX (fun pc => if pc = 126 then some 11 else none) 40 ?_
          refine And.intro (fun g1 => ?_) (fun g1 => And.intro (fun g2 => And.intro (fun g3 => ?_) (fun g3 => ?_)) (fun g2 => And.intro (fun g3 => ?_) (fun g3 => ?_)))
          · exact p126 1 its (Or.inl ⟨rfl, er.trans (if_neg g1), h2⟩) _ _
          · exact p126 0 its (Or.inr ⟨rfl, by rw [er, if_pos g1, if_neg g2, if_pos g3]; exact lt_m1⟩) _ _
          · exact p126 1 its (Or.inl ⟨rfl, by rw [er, if_pos g1, if_neg g2, if_neg g3], h2⟩) _ _
          · exact p126 0 its (Or.inr ⟨rfl, by rw [er, if_pos g1, if_pos g2, if_pos g3]; exact lt_m1⟩) _ _
          · exact p126 1 its (Or.inl ⟨rfl, by rw [er, if_pos g1, if_pos g2, if_neg g3], h2⟩) _ _
        have c1 := qc (i := i) (j := 1) (by omega) (by decide)
        have v1 := qv (i := i) (j := 1) (N := 60) (by omega) (by decide) (by omega) (by decide)
        have c3 := qc (i := i) (j := 3) (by omega) (by decide)
        have v3 := qv (i := i) (j := 3) (N := 60) (by omega) (by decide) (by omega) (by decide)
        refine go hX (fun pc => if pc = 95 then some 11 else none) 60 ?_
        have eb : Qa ((5 : Int32) * nI i + nI 1).toNatClampNeg - G 16 = Qa (5 * i + 1) - G 16 := by rw [c1]
        refine ⟨in_lit (by decide), And.intro (fun h => absurd h hl) (fun _ => ⟨v1, in_lit (by decide), And.intro (fun h => And.intro (fun h2 => ?_) (fun h2 => ⟨v3, ?_⟩)) (fun h => ?_)⟩)⟩
        · refine l_size ?_
          refine p95 _ _ eb ?_ _ _
          show sizeI (Qa ((5 : Int32) * nI i + nI 1).toNatClampNeg - G 16) = _
          rw [eb]
          exact ((if_neg h).trans (if_neg h2)).symm
        · refine p95 _ _ eb ?_ _ _
          show Qa ((5 : Int32) * nI i + nI 3).toNatClampNeg = _
          rw [c3]
          exact ((if_neg h).trans (if_pos h2)).symm
        · exact p95 _ _ eb (if_pos h).symm _ _
    refine go hX (fun pc => if pc = 42 then some 11 else none) 40 ?_
    exact key n 0 x8 x9 x10 (by omega)
  have p9 : ∀ (x6 x7 x8 x9 x10 : Option Value), pick (lrk G Qa way (G 20)) n = none → X 9 [some (.ref 0), some (.ref 1), some (.int way), some (.int (-1)), some (.int 999999), some (.int 1), x6, x7, x8, x9, x10] [] (g3 G Qa La) (0, 0) := by
    intro x6 x7 x8 x9 x10 hp
    refine go hX (fun pc => if pc = 39 then some 11 else none) 40 ?_
    refine And.intro (fun h => absurd h (by decide)) (fun _ => And.intro (fun h => absurd h (by decide)) (fun _ => And.intro (fun _ => ⟨in_lit (by decide), ?_⟩) (fun h => absurd h (by decide))))
    refine inner 1 (3 - G 20) _ _ _ _ (fun x7 x8 x9 x10 => ?_)
    refine go hX (fun pc => if pc = 9 then some 11 else none) 40 ?_
    refine go hX (fun _ => none) 40 ?_
    unfold ltgt at hQ
    rw [hp] at hQ
    exact And.intro (fun _ => hQ) (fun h => absurd (by decide) h)
  refine go hX (fun pc => if pc = 39 then some 11 else none) 40 ?_
  refine And.intro (fun h => absurd h (by decide)) (fun _ => And.intro (fun h => absurd h (by decide)) (fun _ => And.intro (fun h => absurd rfl h) (fun _ => ⟨in_lit (by decide), ?_⟩)))
  refine inner 0 (G 20) _ _ _ _ (fun x7 x8 x9 x10 => ?_)
  refine go hX (fun pc => if pc = 9 then some 11 else none) 40 ?_
  cases hp : pick (lrk G Qa way (G 20)) n with
  | none => exact p9 _ _ _ _ _ hp
  | some b =>
    have hbn := pick_lt hp
    have e0 : fo 0 (some b) = nI b := by
      show nI b + (if (0 : Int32) = 1 then 100 else 0) = nI b
      rw [if_neg (by decide), Int32.add_zero]
    unfold ltgt at hQ
    rw [hp] at hQ
    rw [e0]
    refine go hX (fun _ => none) 40 ?_
    exact And.intro (fun h => absurd h (by decide)) (fun _ => And.intro (fun _ => hQ) (fun h => absurd (nI_pos' (by omega)) h))
