/-! ===== p26's law: a request goes; a tick, from its readings on ===== -/
variable {Q : AQ} {T c d : Nat} {s : Sg} {G Qa La u v : Nat → Int32} {M : AM} {X : WK} {num was fa : Int32} {to : Int32} {x6 x9 x10 : Option Value}
def GU (G u : Nat → Int32) (c d : Nat) : Prop := (∀ k, k < 21 → G k = u k) ∧ G 21 = nI c ∧ G 22 = nI d
theorem GU.st {i : Nat} {x y : Int32} (h : GU G u c d) (hi : i < 21) (e : x = y) : GU (upd G i x) (upd u i y) c d := ⟨fun k hk => by
    unfold upd
    split
    · exact e
    · exact h.1 k hk, (upd_o (by omega)).trans h.2.1, (upd_o (by omega)).trans h.2.2⟩
theorem GU.cg (h : GU G u c d) (e : ∀ k, k < 21 → u k = v k) : GU G v c d := ⟨fun k hk => (h.1 k hk).trans (e k hk), h.2⟩
theorem GU.dec (h : GU G u (c + 1) d) : GU (upd G 21 (G 21 - 1)) u c d := ⟨fun k hk => (upd_o (by omega)).trans (h.1 k hk), upd_i.trans (by rw [h.2.1]; exact nI_pred c), (upd_o (by decide)).trans h.2.2⟩
theorem GU.s22 {e : Nat} {x : Int32} (h : GU G u c d) (hx : x = nI e) : GU (upd G 22 x) u c e := ⟨fun k hk => (upd_o (by omega)).trans (h.1 k hk), (upd_o (by decide)).trans h.2.1, upd_i.trans hx⟩
theorem q0c {i : Nat} (hi : i < 1000) : ((5 : Int32) * nI i).toNatClampNeg = 5 * i := by rw [show (5 : Int32) = nI 5 from rfl, mul_nI]; exact nI_clamp (by omega)
theorem q0v {i N : Nat} (hN : 5 * i < N) (hN2 : N ≤ 1000) : vp_in ((5 : Int32) * nI i) N := by rw [show (5 : Int32) = nI 5 from rfl, mul_nI]; exact in_nI hN (by omega)
theorem five_nI (n : Nat) : (5 : Int32) * nI n = nI (5 * n) := by rw [show (5 : Int32) = nI 5 from rfl, mul_nI]
set_option maxRecDepth 20000 in
theorem l_gone {k n : Nat} {kv : Int32} (h21 : G 21 = nI n) (hk : kv = nI k) (hkn : k < n) (hn : n ≤ 12) (hQ : ∀ Q1 : Nat → Int32, (∀ i, i < 5 * k → Q1 i = Qa i) → (∀ i, 5 * k ≤ i → i < 5 * (n - 1) → Q1 i = Qa (i + 5)) → Q (.inl none) (g3 (upd G 21 (G 21 - 1)) Q1 La)) : Tr tL_gone 0 0 [.ref 0, .ref 1, .int kv] (g3 G Qa La) Q := by
  refine Tr.of sL_gone (by decide +kernel) (Nat.le_of_ble_eq_true rfl) fun X hX => ?_
  have key : ∀ G1 : Nat → Int32, G1 21 = nI (n - 1) → (∀ Q1 : Nat → Int32, (∀ i, i < 5 * k → Q1 i = Qa i) → (∀ i, 5 * k ≤ i → i < 5 * (n - 1) → Q1 i = Qa (i + 5)) → Q (.inl none) (g3 G1 Q1 La)) → ∀ (d j : Nat) (Q1 : Nat → Int32), j + d = 5 * (n - 1) → 5 * k ≤ j → (∀ i, i < 5 * k → Q1 i = Qa i) → (∀ i, 5 * k ≤ i → i < j → Q1 i = Qa (i + 5)) → (∀ i, j ≤ i → Q1 i = Qa i) → X 12 [some (.ref 0), some (.ref 1), some (.int kv), some (.int (nI j))] [] (g3 G1 Q1 La) (0, 0) := by
    intro G1 hG hc d
    induction d with
    | zero =>
      intro j Q1 hj hkj a1 a2 a3
      refine go hX (fun _ => none) 30 ?_
      refine ⟨in_lit (by decide), And.intro (fun _ => hc Q1 a1 (fun i h1 h2 => a2 i h1 (by omega))) (fun h => absurd ?_ h)⟩
      show (5 : Int32) * G1 21 ≤ nI j
      rw [hG, five_nI, show 5 * (n - 1) = j by omega]
      exact Int32.le_refl _
    | succ d ih =>
      intro j Q1 hj hkj a1 a2 a3
      have e5 : nI j + 5 = nI (j + 5) := nI_add j 5
      have v5 : vp_in (nI j + 5) 60 := by rw [e5]; exact in_nI (by omega) (by decide)
      have v0 : vp_in (nI j) 60 := in_nI (by omega) (by decide)
      have c5 : (nI j + 5).toNatClampNeg = j + 5 := by rw [e5]; exact nI_clamp (by omega)
      have c0 : (nI j).toNatClampNeg = j := nI_clamp (by omega)
      have hl : ¬ (5 : Int32) * G1 21 ≤ nI j := by rw [hG, five_nI]; exact nI_ge (by omega) (by omega)
      refine go hX (fun pc => if pc = 12 then some 4 else none) 30 ?_
      refine ⟨in_lit (by decide), And.intro (fun h => absurd h hl) (fun _ => ⟨v5, v0, ?_⟩)⟩
      rw [c5, c0]
      have := ih (j + 1) (upd Q1 j (Q1 (j + 5))) (by omega) (by omega) (fun i hi => (upd_o (by omega)).trans (a1 i hi)) (fun i h1 h2 => by
        by_cases hij : i = j
        · subst hij
          exact upd_i.trans (a3 _ (by omega))
        · exact (upd_o hij).trans (a2 i h1 (by omega))) (fun i hi => (upd_o (by omega)).trans (a3 i (by omega)))
      rw [← nI_1] at this
      exact this
  refine go hX (fun pc => if pc = 12 then some 4 else none) 30 ?_
  refine ⟨in_lit (by decide), in_lit (by decide), ?_⟩
  have := key (upd G 21 (G 21 - 1)) (upd_i.trans (by rw [h21]; exact sub_nI (a := n) (b := 1) (by omega))) hQ (5 * (n - 1) - 5 * k) (5 * k) Qa (by omega) (Nat.le_refl _) (fun _ _ => rfl) (fun i h1 h2 => by omega) (fun _ _ => rfl)
  rw [← five_nI, ← hk] at this
  exact this
theorem q_gone {ks rest : List Rq} {r : Rq} {Q1 : Nat → Int32} (h : QOk Qa (ks ++ r :: rest)) (h1 : ∀ i, i < 5 * ks.length → Q1 i = Qa i) (h2 : ∀ i, 5 * ks.length ≤ i → i < 5 * (ks.length + rest.length) → Q1 i = Qa (i + 5)) : QOk Q1 (ks ++ rest) := by
  intro i x hx j hj
  by_cases hi : i < ks.length
  · rw [List.getElem?_append_left hi] at hx
    rw [h1 _ (by omega)]
    exact h i x (by rw [List.getElem?_append_left hi]; exact hx) j hj
  · rw [List.getElem?_append_right (by omega)] at hx
    have hl := (List.getElem?_eq_some_iff.mp hx).1
    rw [h2 _ (by omega) (by omega), show 5 * i + j + 5 = 5 * (i + 1) + j by omega]
    refine h (i + 1) x ?_ j hj
    rw [List.getElem?_append_right (by omega), show i + 1 - ks.length = (i - ks.length) + 1 by omega]
    exact hx
theorem q_at {ks rest : List Rq} {r : Rq} (h : QOk Qa (ks ++ r :: rest)) {j : Nat} (hj : j < 5) : Qa (5 * ks.length + j) = rf r j := h ks.length r (by rw [List.getElem?_append_right (Nat.le_refl _), Nat.sub_self]; rfl) j hj
abbrev tkL (num to : Int32) (x6 : Option Value) (was fa : Int32) (x9 x10 : Option Value) : AL := [some (.ref 0), some (.ref 1), some (.ref 2), some (.int num), some (.int to), some (.int 0), x6, some (.int was), some (.int fa), x9, x10]
theorem div_nI {m k : Nat} (hm : m < 2 ^ 31) (hk : k < 2 ^ 31) : nI m / nI k = nI (m / k) := by
  obtain ⟨q, hq⟩ : ∃ q, m / k = q := ⟨_, rfl⟩
  have h : q ≤ m := by rw [← hq]; exact Nat.div_le_self m k
  have e : (m : Int).tdiv (k : Int) = ((m / k : Nat) : Int) := rfl
  rw [hq] at e
  rw [hq, ← Int32.toInt_inj, Int32.toInt_div, nI_toInt hm, nI_toInt hk, nI_toInt (by omega), e]
  exact Int.bmod_eq_of_le (by omega) (by omega)
theorem cool_r {cc lim dd : Int32} {k l : Nat} (hc : cc = nI k) (hl : lim = nI l) (hk : k < 2 ^ 30) (hl2 : l ≤ 200) : coolR lim cc dd = if cc < lim then (if lim - lim % 2 < 2 * cc then dd else 0) else 1 := by
  subst hc hl
  unfold coolR
  have e1 : nI l / 2 = nI (l / 2) := div_nI (k := 2) (by omega) (by decide)
  have e2 : nI l % 2 = nI (l % 2) := mod_nI (k := 2) (by omega) (by decide)
  have e3 : nI l - nI (l % 2) = nI (l - l % 2) := sub_nI (by omega)
  have e4 : (2 : Int32) * nI k = nI (2 * k) := mul_nI 2 k
  rw [e1, e2, e3, e4]
  by_cases h : k < l
  · rw [if_neg (nI_ge h (by omega)), if_pos (nI_lt h (by omega))]
    by_cases h2 : k ≤ l / 2
    · rw [if_pos (nI_le h2 (by omega)), if_neg (nI_nlt (by omega) (by omega))]
    · rw [if_neg (nI_ge (by omega) (by omega)), if_pos (nI_lt (by omega) (by omega))]
  · rw [if_pos (nI_le (by omega) (by omega)), if_neg (nI_nlt (by omega) (by omega))]
set_option maxRecDepth 20000 in
theorem tk_608 (hX : Clo kL_tick Q X) {m : Int32} (hG : GU G u c d) (hc : ∀ G1, GU G1 (upd (upd u 15 m) 6 (u 6 + 1)) c d → Q (.inl (some (.int 0))) (g3 G1 Qa La)) : X 608 (tkL num to x6 was fa x9 x10) [.int m, .int 15, .ref 0] (g3 G Qa La) (0, 0) := by
  refine go hX (fun _ => none) 30 ?_
  refine ⟨in_lit (by decide), in_lit (by decide), in_lit (by decide), by decide, ?_⟩
  refine hc _ ((hG.st (by decide) rfl).st (by decide) ?_)
  show upd G 15 m 6 + 1 = u 6 + 1
  rw [upd_o (by decide), hG.1 6 (by decide)]
set_option maxRecDepth 20000 in
theorem tk_582 (hX : Clo kL_tick Q X) {r : Int32} (hG : GU G u c d) (hc : ∀ m G1, m = (if u 15 < u 18 then u 18 else u 15) → GU G1 (upd (upd (upd u 19 r) 15 m) 6 (u 6 + 1)) c d → Q (.inl (some (.int 0))) (g3 G1 Qa La)) : X 582 (tkL num to x6 was fa x9 x10) [.int r, .int 19, .ref 0] (g3 G Qa La) (0, 0) := by
  have p583 : ∀ G, GU G (upd u 19 r) c d → X 583 (tkL num to x6 was fa x9 x10) [] (g3 G Qa La) (0, 0) := by
    intro G hG
    have e15 : G 15 = u 15 := (hG.1 15 (by decide)).trans (upd_o (by decide))
    have e18 : G 18 = u 18 := (hG.1 18 (by decide)).trans (upd_o (by decide))
    have e6 : upd u 19 r 6 = u 6 := upd_o (by decide)
    refine go hX (fun pc => if pc = 608 then some 11 else none) 30 ?_
    refine ⟨in_lit (by decide), in_lit (by decide), And.intro (fun h => ⟨in_lit (by decide), ?_⟩) (fun h => ⟨in_lit (by decide), ?_⟩)⟩
    · have h' : G 18 ≤ G 15 := h
      refine tk_608 hX (m := G 15) hG (fun G1 h1 => hc (G 15) G1 ?_ (by rw [e6] at h1; exact h1))
      rw [e15, e18] at h'
      rw [if_neg (Int32.not_lt.mpr h'), e15]
    · have h' : ¬ G 18 ≤ G 15 := h
      refine tk_608 hX (m := G 18) hG (fun G1 h1 => hc (G 18) G1 ?_ (by rw [e6] at h1; exact h1))
      rw [e15, e18] at h'
      rw [if_pos (Int32.not_le.mp h'), e18]
  refine go hX (fun pc => if pc = 583 then some 11 else none) 30 ?_
  exact ⟨in_lit (by decide), p583 _ (hG.st (by decide) rfl)⟩
set_option maxRecDepth 20000 in
theorem tk_538 (hX : Clo kL_tick Q X) {cc : Int32} {k l : Nat} (hcc : cc = nI k) (hk : k < 2 ^ 30) (hl : u 4 = nI l) (hl2 : l ≤ 200) (hG : GU G u c d) (hc : ∀ r m G1, r = coolR (u 4) cc (u 19) → m = (if u 15 < cc then cc else u 15) → GU G1 (upd (upd (upd (upd u 18 cc) 19 r) 15 m) 6 (u 6 + 1)) c d → Q (.inl (some (.int 0))) (g3 G1 Qa La)) : X 538 (tkL num to x6 was fa x9 x10) [.int cc, .int 18, .ref 0] (g3 G Qa La) (0, 0) := by
  have er := cool_r (dd := u 19) hcc hl hk hl2
  have p539 : ∀ G, GU G (upd u 18 cc) c d → X 539 (tkL num to x6 was fa x9 x10) [] (g3 G Qa La) (0, 0) := by
    intro G hG
    have e18 : G 18 = cc := (hG.1 18 (by decide)).trans upd_i
    have e4 : G 4 = u 4 := (hG.1 4 (by decide)).trans (upd_o (by decide))
    have e19 : G 19 = u 19 := (hG.1 19 (by decide)).trans (upd_o (by decide))
    have fin : ∀ r, r = coolR (u 4) cc (u 19) → X 582 (tkL num to x6 was fa x9 x10) [.int r, .int 19, .ref 0] (g3 G Qa La) (0, 0) := by
      intro r hr
      refine tk_582 hX hG (fun m G1 hm h1 => hc r m G1 hr ?_ ?_)
      · rw [show upd u 18 cc 15 = u 15 from upd_o (by decide), show upd u 18 cc 18 = cc from upd_i] at hm
        exact hm
      · rw [show upd u 18 cc 6 = u 6 from upd_o (by decide)] at h1
        exact h1
    refine go hX (fun pc => if pc = 582 then some 11 else none) 60 ?_
    refine ⟨in_lit (by decide), in_lit (by decide), And.intro (fun h => ⟨in_lit (by decide), in_lit (by decide), in_lit (by decide), by decide, And.intro (fun h2 => ⟨in_lit (by decide), ?_⟩) (fun h2 => ?_)⟩) (fun h => ?_)⟩
    · have h' : G 18 < G 4 := h
      have h2' : G 4 - G 4 % 2 < 2 * G 18 := h2
      rw [e18, e4] at h' h2'
      exact fin _ (by show G 19 = _; rw [er, if_pos h', if_pos h2', e19])
    · have h' : G 18 < G 4 := h
      have h2' : ¬ G 4 - G 4 % 2 < 2 * G 18 := h2
      rw [e18, e4] at h' h2'
      exact fin _ (by rw [er, if_pos h', if_neg h2'])
    · have h' : ¬ G 18 < G 4 := h
      rw [e18, e4] at h'
      exact fin _ (by rw [er, if_neg h'])
  refine go hX (fun pc => if pc = 539 then some 11 else none) 30 ?_
  exact ⟨in_lit (by decide), p539 _ (hG.st (by decide) rfl)⟩
set_option maxRecDepth 20000 in
theorem tk_518 (hX : Clo kL_tick Q X) {k l : Nat} (hk0 : u 18 = nI k) (hk : k < 2 ^ 30) (hl : u 4 = nI l) (hl2 : l ≤ 200) (hG : GU G u c d) (hc : ∀ G1, GU G1 (lastU u) c d → Q (.inl (some (.int 0))) (g3 G1 Qa La)) : X 518 (tkL num to x6 was fa x9 x10) [] (g3 G Qa La) (0, 0) := by
  have fin : ∀ cc, cc = coolH (u 18) → X 538 (tkL num to x6 was fa x9 x10) [.int cc, .int 18, .ref 0] (g3 G Qa La) (0, 0) := by
    intro cc hcc
    have e : cc = nI (k - 1) := by
      rw [hcc, hk0]
      unfold coolH
      by_cases h0 : 0 < k
      · rw [if_pos (show (0 : Int32) < nI k from nI_lt (a := 0) h0 (by omega))]
        exact sub_nI (a := k) (b := 1) (by omega)
      · rw [if_neg (show ¬ (0 : Int32) < nI k from nI_nlt (b := k) (a := 0) (by omega) (by decide)), show k - 1 = k by omega]
    refine tk_538 hX e (by omega) hl hl2 hG (fun r m G1 hr hm h1 => hc G1 ?_)
    unfold lastU
    rw [← hcc, ← hr, ← hm]
    exact h1
  have e18 : G 18 = u 18 := hG.1 18 (by decide)
  refine go hX (fun pc => if pc = 538 then some 11 else none) 30 ?_
  refine ⟨in_lit (by decide), And.intro (fun h => ?_) (fun h => ⟨in_lit (by decide), ?_⟩)⟩
  · have h' : G 18 ≤ 0 := h
    rw [e18] at h'
    refine fin _ ?_
    unfold coolH
    rw [if_neg (Int32.not_lt.mpr h')]
    rw [hk0] at h' ⊢
    rcases Nat.eq_zero_or_pos k with h0 | h0
    · rw [h0]; rfl
    · exact absurd h' (nI_nle h0 (by omega))
  · have h' : ¬ G 18 ≤ 0 := h
    rw [e18] at h'
    refine fin _ ?_
    unfold coolH
    rw [if_pos (Int32.not_le.mp h')]
    show G 18 - 1 = _
    rw [e18]
theorem bk1 (k : Nat) : nI k + (-1) + 1 = nI k := by rw [Int32.add_assoc, show (-1 : Int32) + 1 = 0 by decide, Int32.add_zero]
def gl (v : Nat → Int32) (r : Rq) : Bool := decide (0 < v 5) && goneS v r
set_option maxRecDepth 20000 in
theorem tk_460 (hX : Clo kL_tick Q X) (h5 : 0 ≤ (v 5).toInt ∧ (v 5).toInt ≤ 100) (h6 : 0 ≤ (v 6).toInt ∧ (v 6).toInt ≤ 100000) : ∀ (rest ks : List Rq) (g : Int32) (G Qa : Nat → Int32), ks.length + rest.length ≤ 12 → (∀ r ∈ rest, 0 ≤ r.2.2.2.1.toInt ∧ r.2.2.2.1.toInt ≤ 9999) → GU G (upd v 10 g) (ks.length + rest.length) d → QOk Qa (ks ++ rest) →
    (∀ G1 Q1 x9, GU G1 (upd v 10 (g + nI (rest.countP (gl v)))) (ks ++ rest.filter (fun r => !gl v r)).length d → QOk Q1 (ks ++ rest.filter (fun r => !gl v r)) → X 518 (tkL num to x6 was fa x9 x10) [] (g3 G1 Q1 La) (0, 0)) → X 460 (tkL num to x6 was fa (some (.int (nI ks.length))) x10) [] (g3 G Qa La) (0, 0) := by
  intro rest
  induction rest with
  | nil =>
    intro ks g G Qa hn hb hG hq hc
    simp only [List.filter_nil, List.append_nil, List.countP_nil, List.length_nil, Nat.add_zero] at hc hG hq
    refine go hX (fun pc => if pc = 518 then some 11 else none) 30 ?_
    refine ⟨in_lit (by decide), And.intro (fun _ => hc _ _ _ ?_ hq) (fun h => absurd (show G 21 ≤ nI ks.length by rw [hG.2.1]; exact Int32.le_refl _) h)⟩
    rw [nI_0, Int32.add_zero]
    exact hG
  | cons r rest ih =>
    intro ks g G Qa hn hb hG hq hc
    rw [List.length_cons] at hn hG
    obtain ⟨b1, b2⟩ := hb r List.mem_cons_self
    have hl : ¬ G 21 ≤ nI ks.length := by rw [hG.2.1]; exact nI_ge (by omega) (by omega)
    have v3 := qv (i := ks.length) (j := 3) (N := 60) (by omega) (by decide) (by omega) (by decide)
    have c3 := qc (i := ks.length) (j := 3) (by omega) (by decide)
    have q3 : Qa ((5 : Int32) * nI ks.length + nI 3).toNatClampNeg = r.2.2.2.1 := by rw [c3]; exact q_at hq (by decide)
    have e5 : G 5 = v 5 := (hG.1 5 (by decide)).trans (upd_o (by decide))
    have e6 : G 6 = v 6 := (hG.1 6 (by decide)).trans (upd_o (by decide))
    have p512g : ∀ (jv : Int32) (G Qa : Nat → Int32), X 460 (tkL num to x6 was fa (some (.int (jv + 1))) x10) [] (g3 G Qa La) (0, 0) → X 512 (tkL num to x6 was fa (some (.int jv)) x10) [] (g3 G Qa La) (0, 0) := by
      intro jv G Qa hx
      refine go hX (fun pc => if pc = 460 then some 11 else none) 10 ?_
      exact hx
    have p512 : gl v r = false → X 512 (tkL num to x6 was fa (some (.int (nI ks.length))) x10) [] (g3 G Qa La) (0, 0) := by
      intro hh
      refine go hX (fun pc => if pc = 460 then some 11 else none) 10 ?_
      have ef : (r :: rest).countP (gl v) = rest.countP (gl v) := List.countP_cons_of_neg (by rw [hh]; decide)
      have eg : ks ++ (r :: rest).filter (fun r => !gl v r) = (ks ++ [r]) ++ rest.filter (fun r => !gl v r) := by rw [List.filter_cons, hh, List.append_assoc]; rfl
      rw [ef, eg] at hc
      have el : (ks ++ [r]).length = ks.length + 1 := by rw [List.length_append, List.length_singleton]
      have := ih (ks ++ [r]) g G Qa (by omega) (fun x hx => hb x (List.mem_cons_of_mem _ hx)) (by rw [el, show ks.length + 1 + rest.length = ks.length + (rest.length + 1) by omega]; exact hG) (by rw [List.append_assoc]; exact hq) hc
      rw [el, ← nI_1] at this
      exact this
    refine go hX (fun pc => if pc = 512 then some 11 else if pc = 460 then some 11 else none) 60 ?_
    refine ⟨in_lit (by decide), And.intro (fun h => absurd h hl) (fun _ => ⟨in_lit (by decide), And.intro (fun h => ?_) (fun h => ⟨v3, in_lit (by decide), in_lit (by decide), And.intro (fun h2 => ?_) (fun h2 => ?_)⟩)⟩)⟩
    · have h' : G 5 ≤ 0 := h
      rw [e5] at h'
      exact p512 (by unfold gl; rw [decide_eq_false (Int32.not_lt.mpr h')]; rfl)
    all_goals
      have ei : (v 6 - v 5).toInt = (v 6).toInt - (v 5).toInt := sub_in (by omega) (by omega)
      have ea : (r.2.2.2.1 + v 5).toInt = r.2.2.2.1.toInt + (v 5).toInt := add_in (by omega) (by omega)
    · have h2' : G 6 - G 5 ≤ Qa ((5 : Int32) * nI ks.length + nI 3).toNatClampNeg := h2
      rw [q3, e5, e6] at h2'
      have h3 := Int32.le_iff_toInt_le.mp h2'
      refine p512 ?_
      have : goneS v r = false := decide_eq_false (fun z => by have := Int32.lt_iff_toInt_lt.mp z; omega)
      unfold gl
      rw [this, Bool.and_false]
    · have h2' : ¬ G 6 - G 5 ≤ Qa ((5 : Int32) * nI ks.length + nI 3).toNatClampNeg := h2
      rw [q3, e5, e6] at h2'
      have h3 : ¬ (v 6 - v 5).toInt ≤ r.2.2.2.1.toInt := fun z => h2' (Int32.le_iff_toInt_le.mpr z)
      have h' : ¬ G 5 ≤ 0 := h
      rw [e5] at h'
      have hh : gl v r = true := by
        have : goneS v r = true := decide_eq_true (Int32.lt_iff_toInt_lt.mpr (by omega))
        unfold gl
        rw [this, decide_eq_true (Int32.not_le.mp h')]
        rfl
      refine l_gone (k := ks.length) (n := ks.length + (rest.length + 1)) hG.2.1 rfl (by omega) hn (fun Q1 a1 a2 => ?_)
      refine ⟨in_lit (by decide), in_lit (by decide), ?_⟩
      have ef : (r :: rest).countP (gl v) = rest.countP (gl v) + 1 := List.countP_cons_of_pos hh
      have eg : (r :: rest).filter (fun r => !gl v r) = rest.filter (fun r => !gl v r) := by rw [List.filter_cons, hh]; rfl
      have ex : g + nI (rest.countP (gl v) + 1) = g + 1 + nI (rest.countP (gl v)) := by rw [nI_succ, Int32.add_assoc, Int32.add_comm 1]
      rw [ef, eg, ex] at hc
      have hG1 := (GU.dec (c := ks.length + rest.length) hG)
      have := ih ks (g + 1) (upd (upd G 21 (G 21 - 1)) 10 (upd G 21 (G 21 - 1) 10 + 1)) Q1 (by omega) (fun x hx => hb x (List.mem_cons_of_mem _ hx)) ((hG1.st (i := 10) (y := g + 1) (by decide) (by rw [hG1.1 10 (by decide), upd_i])).cg (fun k hk => by unfold upd; split <;> rfl)) (q_gone hq a1 (fun i h1 h2 => a2 i h1 (by omega))) hc
      rw [← bk1 ks.length] at this
      exact p512g _ _ _ this
