/-! ===== p26's law: what it asks of each request; all that it asks ===== -/
variable {Q : AQ} {T t : Nat} {G Qa La : Nat → Int32} {a : Kp} {Mc : AM} {X : WK} {x6 : Option Value}
set_option maxRecDepth 20000 in
theorem is_6 (hX : Clo kL_isSo Q X) (hTT : T + 100 < 2 ^ 31) (hQ : IsQ Q T t a G Qa La) (h22 : a.1.2.2.length ≤ 10) : ∀ (d i : Nat) (Mc : AM) (cc ss : Nat) (x6 : Option Value), i + d = a.1.2.1.length → LJ T t a G Qa La Mc → 8 * d + 115 ≤ cc → 6 * (8 * d + 115) ≤ ss → X 6 (isL (nI i) x6) [] (Mc ++ g3 G Qa La) (cc, ss) := by
  intro d
  induction d with
  | zero =>
    intro i Mc cc ss x6 hi hS hc hs
    have hlen := hS.2.2.1.1.2.1
    have g21 : G 21 = nI a.1.2.1.length := hS.2.2.2.1.1.2.1
    have p193 : X 193 (isL (nI i) x6) [] (Mc ++ g3 G Qa La) (cc, ss) := by
      refine go hX (fun pc => if pc = 196 then some 7 else none) 20 ?_
      exact is_196 (X := X) hX hTT hQ h22 55 0 Mc cc ss (by omega) hS (by omega) (by omega)
    obtain ⟨sc, s, S, R, L, tw, f, fc, len, B, c, wn, rfl⟩ := cw_p5 Mc hS.2.1
    refine go hX (fun pc => if pc = 193 then some 7 else none) 20 ?_
    exact ⟨in_lit (by decide), And.intro (fun _ => p193) (fun h => absurd (show G 21 ≤ nI i by rw [g21, show i = a.1.2.1.length by omega]; exact Int32.le_refl _) h)⟩
  | succ d ih =>
    intro i Mc cc ss x6 hi hS hc hs
    have hT := hS.2.2.2.1
    have hI := hS.2.2.1.1
    have hlen := hI.2.1
    have g21 : G 21 = nI a.1.2.1.length := hT.1.2.1
    have g6 : G 6 = a.1.1 6 := hT.1.1 6 (by decide)
    have g16 : G 16 = a.1.1 16 := hT.1.1 16 (by decide)
    obtain ⟨c1, rfl⟩ : ∃ c1, cc = c1 + 8 := ⟨cc - 8, by omega⟩
    obtain ⟨s1, rfl⟩ : ∃ s1, ss = s1 + 48 := ⟨ss - 48, by omega⟩
    have hil : i < a.1.2.1.length := by omega
    have hof : ∀ (w : Int32) (j : Nat), w = nI j → j ≤ 5 → requestOfA (a.1.2.1.getD i d0).1 w a.1 = (0, toldV a.1.1 (a.1.2.1.getD i d0) j) := fun w j hw hj => v_of hI hil hw hj
    have h6 := v_of6 hI hil
    have hat := v_at (s := a.1) (p := nI i) (k := i) rfl (by omega)
    rw [if_pos (nI_lt hil (by omega))] at hat
    have rq : ∀ j, j < 5 → Qa (5 * i + j) = rf (a.1.2.1.getD i d0) j := fun j hj => row_q hT.2.1 hil hj
    generalize a.1.2.1.getD i d0 = r at hof h6 hat rq
    have c0 := q0c (i := i) (by omega)
    have v0 := q0v (i := i) (N := 60) (by omega) (by decide)
    have v1 := qv (i := i) (j := 1) (N := 60) (by omega) (by decide) (by omega) (by decide)
    have v2 := qv (i := i) (j := 2) (N := 60) (by omega) (by decide) (by omega) (by decide)
    have v3 := qv (i := i) (j := 3) (N := 60) (by omega) (by decide) (by omega) (by decide)
    have v4 := qv (i := i) (j := 4) (N := 60) (by omega) (by decide) (by omega) (by decide)
    have q0 : Qa ((5 : Int32) * nI i).toNatClampNeg = r.1 := by rw [c0]; exact rq 0 (by decide)
    have q1 : Qa ((5 : Int32) * nI i + nI 1).toNatClampNeg = r.2.1 := by rw [qc (by omega) (by decide)]; exact rq 1 (by decide)
    have q2 : Qa ((5 : Int32) * nI i + nI 2).toNatClampNeg = r.2.2.1 := by rw [qc (by omega) (by decide)]; exact rq 2 (by decide)
    have q3 : Qa ((5 : Int32) * nI i + nI 3).toNatClampNeg = r.2.2.2.1 := by rw [qc (by omega) (by decide)]; exact rq 3 (by decide)
    have q4 : Qa ((5 : Int32) * nI i + nI 4).toNatClampNeg = r.2.2.2.2 := by rw [qc (by omega) (by decide)]; exact rq 4 (by decide)
    have p185 : ∀ Mc1, LJ T t a G Qa La Mc1 → X 185 (isL (nI i) (some (.int r.1))) [.int 1] (Mc1 ++ g3 G Qa La) (c1, s1) := by
      intro Mc1 h1
      refine go hX (fun pc => if pc = 6 then some 7 else none) 20 ?_
      have := ih (i + 1) Mc1 c1 s1 (some (.int r.1)) (by omega) h1 (by omega) (by omega)
      rw [← nI_1] at this
      exact this
    have p175 : ∀ Mc1, LJ T t a G Qa La Mc1 → X 175 (isL (nI i) (some (.int r.1))) [.int (-2000002)] (Mc1 ++ g3 G Qa La) (c1, s1) := by
      intro Mc1 h1
      refine go hX (fun pc => if pc = 185 then some 7 else none) 20 ?_
      exact And.intro (fun h => absurd rfl h) (fun _ => p185 _ h1)
    have p164 : ∀ Mc1 y, LJ T t a G Qa La Mc1 → y = toldV a.1.1 r 5 → X 164 (isL (nI i) (some (.int r.1))) [.int y, .int (toldV a.1.1 r 5)] (Mc1 ++ g3 G Qa La) (c1 + 1, s1 + 6) := by
      intro Mc1 y h1 hy
      refine go hX (fun pc => if pc = 175 then some 7 else none) 20 ?_
      refine And.intro (fun h => absurd hy.symm h) (fun _ => ?_)
      exact rd_requestOf h1 h6 hvl_2 (fun E M z => z) (fun Mc2 h2 => p175 Mc2 h2)
    have p144 : ∀ Mc1, LJ T t a G Qa La Mc1 → X 144 (isL (nI i) (some (.int r.1))) [.int (toldV a.1.1 r 5)] (Mc1 ++ g3 G Qa La) (c1 + 1, s1 + 6) := by
      intro Mc1 h1
      have h1' := h1
      obtain ⟨sc, s, S, R, L, tw, f, fc, len, B, c, wn, rfl⟩ := cw_p5 Mc1 h1.2.1
      refine go hX (fun pc => if pc = 164 then some 7 else none) 30 ?_
      refine ⟨in_lit (by decide), v3, And.intro (fun h => p164 _ _ h1' ?_) (fun h => p164 _ _ h1' ?_)⟩
      · have h' : G 6 ≤ Qa ((5 : Int32) * nI i + nI 3).toNatClampNeg := h
        rw [q3, g6] at h'
        exact (z01_f (Int32.not_lt.mpr h')).symm
      · have h' : ¬ G 6 ≤ Qa ((5 : Int32) * nI i + nI 3).toNatClampNeg := h
        rw [q3, g6] at h'
        exact (z01_t (Int32.not_le.mp h')).symm
    have p134 : ∀ Mc1 y, LJ T t a G Qa La Mc1 → y = toldV a.1.1 r 4 → X 134 (isL (nI i) (some (.int r.1))) [.int y, .int (toldV a.1.1 r 4)] (Mc1 ++ g3 G Qa La) (c1 + 2, s1 + 12) := by
      intro Mc1 y h1 hy
      refine go hX (fun pc => if pc = 144 then some 7 else none) 20 ?_
      refine And.intro (fun h => absurd hy.symm h) (fun _ => ?_)
      exact rd_requestOf h1 (hof 5 5 rfl (by decide)) hvl_0 (fun E M z => z) (fun Mc2 h2 => p144 Mc2 h2)
    have p118 : ∀ Mc1, LJ T t a G Qa La Mc1 → X 118 (isL (nI i) (some (.int r.1))) [.int (toldV a.1.1 r 4)] (Mc1 ++ g3 G Qa La) (c1 + 2, s1 + 12) := by
      intro Mc1 h1
      have h1' := h1
      obtain ⟨sc, s, S, R, L, tw, f, fc, len, B, c, wn, rfl⟩ := cw_p5 Mc1 h1.2.1
      refine go hX (fun pc => if pc = 134 then some 7 else none) 30 ?_
      refine ⟨v1, in_lit (by decide), ?_⟩
      refine l_size ?_
      refine p134 _ _ h1' ?_
      show sizeI (Qa ((5 : Int32) * nI i + nI 1).toNatClampNeg - G 16) = sizeI (r.2.1 - a.1.1 16)
      rw [q1, g16]
    have p100 : ∀ Mc1, LJ T t a G Qa La Mc1 → X 100 (isL (nI i) (some (.int r.1))) [.int (toldV a.1.1 r 3)] (Mc1 ++ g3 G Qa La) (c1 + 3, s1 + 18) := by
      intro Mc1 h1
      have h1' := h1
      obtain ⟨sc, s, S, R, L, tw, f, fc, len, B, c, wn, rfl⟩ := cw_p5 Mc1 h1.2.1
      refine go hX (fun pc => if pc = 118 then some 7 else none) 30 ?_
      refine ⟨v4, And.intro (fun h => absurd q4.symm h) (fun _ => ?_)⟩
      exact rd_requestOf h1' (hof 4 4 rfl (by decide)) hvl_0 (fun E M z => z) (fun Mc2 h2 => p118 Mc2 h2)
    have p82 : ∀ Mc1, LJ T t a G Qa La Mc1 → X 82 (isL (nI i) (some (.int r.1))) [.int (toldV a.1.1 r 2)] (Mc1 ++ g3 G Qa La) (c1 + 4, s1 + 24) := by
      intro Mc1 h1
      have h1' := h1
      obtain ⟨sc, s, S, R, L, tw, f, fc, len, B, c, wn, rfl⟩ := cw_p5 Mc1 h1.2.1
      refine go hX (fun pc => if pc = 100 then some 7 else none) 30 ?_
      refine ⟨v3, And.intro (fun h => absurd q3.symm h) (fun _ => ?_)⟩
      exact rd_requestOf h1' (hof 3 3 rfl (by decide)) hvl_0 (fun E M z => z) (fun Mc2 h2 => p100 Mc2 h2)
    have p64 : ∀ Mc1, LJ T t a G Qa La Mc1 → X 64 (isL (nI i) (some (.int r.1))) [.int (toldV a.1.1 r 1)] (Mc1 ++ g3 G Qa La) (c1 + 5, s1 + 30) := by
      intro Mc1 h1
      have h1' := h1
      obtain ⟨sc, s, S, R, L, tw, f, fc, len, B, c, wn, rfl⟩ := cw_p5 Mc1 h1.2.1
      refine go hX (fun pc => if pc = 82 then some 7 else none) 30 ?_
      refine ⟨v2, And.intro (fun h => absurd q2.symm h) (fun _ => ?_)⟩
      exact rd_requestOf h1' (hof 2 2 rfl (by decide)) hvl_0 (fun E M z => z) (fun Mc2 h2 => p82 Mc2 h2)
    have p46 : ∀ Mc1, LJ T t a G Qa La Mc1 → X 46 (isL (nI i) (some (.int r.1))) [.int (toldV a.1.1 r 0)] (Mc1 ++ g3 G Qa La) (c1 + 6, s1 + 36) := by
      intro Mc1 h1
      have h1' := h1
      obtain ⟨sc, s, S, R, L, tw, f, fc, len, B, c, wn, rfl⟩ := cw_p5 Mc1 h1.2.1
      refine go hX (fun pc => if pc = 64 then some 7 else none) 30 ?_
      refine ⟨v1, And.intro (fun h => absurd q1.symm h) (fun _ => ?_)⟩
      exact rd_requestOf h1' (hof 1 1 rfl (by decide)) hvl_0 (fun E M z => z) (fun Mc2 h2 => p64 Mc2 h2)
    have p34 : ∀ Mc1, LJ T t a G Qa La Mc1 → X 34 (isL (nI i) (some (.int r.1))) [.int r.1] (Mc1 ++ g3 G Qa La) (c1 + 7, s1 + 42) := by
      intro Mc1 h1
      refine go hX (fun pc => if pc = 46 then some 7 else none) 30 ?_
      refine And.intro (fun h => absurd rfl h) (fun _ => ?_)
      exact rd_requestOf h1 (hof 0 0 rfl (by decide)) hvl_0 (fun E M z => z) (fun Mc2 h2 => p46 Mc2 h2)
    have p28 : X 28 (isL (nI i) (some (.int r.1))) [] (Mc ++ g3 G Qa La) (c1 + 8, s1 + 48) := by
      refine go hX (fun pc => if pc = 34 then some 7 else none) 30 ?_
      exact rd_requestAt hS hat hvl_0 (fun E M z => z) (fun Mc2 h2 => p34 Mc2 h2)
    have hl : ¬ G 21 ≤ nI i := by rw [g21]; exact nI_ge hil (by omega)
    rw [← q0] at p28
    obtain ⟨sc, s, S, R, L, tw, f, fc, len, B, c, wn, rfl⟩ := cw_p5 Mc hS.2.1
    refine go hX (fun pc => if pc = 28 then some 7 else none) 20 ?_
    exact ⟨in_lit (by decide), And.intro (fun h => absurd h hl) (fun _ => And.intro (fun h => absurd h (by decide)) (fun _ => ⟨v0, p28⟩))⟩
set_option maxRecDepth 20000 in
theorem l_isSo (hS : LJ T t a G Qa La Mc) (hTT : T + 100 < 2 ^ 31) (hQ : IsQ Q T t a G Qa La) : Tr tL_isSo 300 1800 [.ref 0, .ref 83, .ref 84, .ref 85] (Mc ++ g3 G Qa La) Q := by
  have h22 : a.1.2.2.length ≤ 10 := by
    obtain ⟨w9, t9, -, -, -, -, h9⟩ := hS.2.2.1.1.2.2.2.2
    omega
  have hlen := hS.2.2.1.1.2.1
  refine Tr.of sL_isSo (by decide +kernel) (Nat.le_of_ble_eq_true rfl) fun X hX => ?_
  refine go hX (fun pc => if pc = 6 then some 7 else none) 20 ?_
  exact is_6 (X := X) hX hTT hQ h22 a.1.2.1.length 0 Mc 300 1800 none (by omega) hS (by omega) (by omega)
