/-! ===== the reference: numbers, a command, the fault ===== -/
variable {g P H X G f : Nat → Int32} {h : Int64} {Q : AQ} {n p : Nat}
set_option maxRecDepth 20000 in
theorem m_number {k : Nat} {kv : Int32} (hk : k < 3) (hkv : kv = nI k) (h6 : f 6 = nI p) (h2 : f 2 = nI n) (hn : n ≤ 150) (hp : p ≤ n) (hQ : ∀ G1 : Nat → Int32, ((numF n X p).1 = true → G1 k = (numF n X p).2.2) → (∀ j, ¬ j = k → G1 j = G j) → Q (.inl (some (.int (bI (numF n X p).1)))) (mdW g P H X G1 (upd f 6 (nI (numF n X p).2.1)) h)) : Tr tX10_number 0 0 [.ref 0, .int kv] (mdW g P H X G f h) Q := by
  have vk : vp_in kv 3 := by rw [hkv]; exact in_nI hk (by decide)
  have wk : kv.toNatClampNeg = k := by rw [hkv]; exact nI_c (by omega)
  refine Tr.of sX10_number (by decide +kernel) (Nat.le_of_ble_eq_true rfl) fun Y hX => ?_
  have tail : ∀ (q e : Nat) (jv : Int32) (G1 : Nat → Int32), jv = nI e → e ≤ n → q ≤ e → Q (.inl (some (.int (bI (decide (q < e) && !isA n X 48 57 e))))) (mdW g P H X G1 (upd f 6 (nI e)) h) → Y 91 [some (.ref 0), some (.int kv), some (.int (nI q))] [] (mdW g P H X G1 (upd f 6 jv) h) (0, 0) := by
    intro q e jv G1 hj he hqe hq
    rw [← hj] at hq
    refine go hX (fun _ => none) 40 ?_
    refine And.intro (fun z => ?_) (fun z => ?_)
    · have h1 : ¬ q < e := fun y => absurd (show jv ≤ nI q from z) (by rw [hj]; exact nI_ge y (by omega))
      rw [decide_eq_false h1] at hq
      exact ⟨rfl, hq⟩
    · have h1 : q < e := by
        rcases Nat.lt_or_ge q e with y | y
        · exact y
        · exact absurd (show jv ≤ nI q by rw [hj]; exact nI_le y (by omega)) z
      rw [decide_eq_true h1] at hq
      refine m_isAt (p := e) (n := n) (f := upd f 6 jv) (upd_i.trans hj) ((upd_o (by decide)).trans h2) hn he ?_
      cases hb : isA n X 48 57 e with
      | false =>
        rw [hb] at hq
        exact And.intro (fun y => absurd rfl y) (fun _ => ⟨rfl, hq⟩)
      | true =>
        rw [hb] at hq
        exact And.intro (fun _ => ⟨rfl, hq⟩) (fun y => absurd y (by decide))
  have loop : ∀ (d s : Nat) (jv : Int32) (G1 : Nat → Int32) (q : Nat), s + d = q + 4 → q ≤ s → s ≤ n → jv = nI s → (∀ G2 : Nat → Int32, G2 k = digV X s (spn n X 48 57 d s - s) (G1 k) → (∀ j, ¬ j = k → G2 j = G1 j) → Y 91 [some (.ref 0), some (.int kv), some (.int (nI q))] [] (mdW g P H X G2 (upd f 6 (nI (spn n X 48 57 d s))) h) (0, 0)) → Y 29 [some (.ref 0), some (.int kv), some (.int (nI q))] [] (mdW g P H X G1 (upd f 6 jv) h) (0, 0) := by
    intro d
    induction d with
    | zero =>
      intro s jv G1 q hs hqs hsn hj hc
      rw [show spn n X 48 57 0 s = s from rfl, Nat.sub_self] at hc
      have hc2 := hc G1 rfl (fun _ _ => rfl)
      rw [← hj] at hc2
      refine go hX (fun pc => if pc = 91 then some 3 else none) 40 ?_
      refine m_isAt (p := s) (n := n) (f := upd f 6 jv) (upd_i.trans hj) ((upd_o (by decide)).trans h2) hn hsn ?_
      cases hb : isA n X 48 57 s with
      | false => exact And.intro (fun _ => hc2) (fun y => absurd rfl y)
      | true =>
        refine And.intro (fun y => absurd y (by decide)) (fun _ => And.intro (fun _ => hc2) (fun z => ?_))
        exact absurd (show (4 : Int32) ≤ jv - nI q by rw [hj, sub_nI hqs, show s - q = 4 by omega]; exact Int32.le_refl _) z
    | succ d ih =>
      intro s jv G1 q hs hqs hsn hj hc
      refine go hX (fun pc => if pc = 91 then some 3 else if pc = 29 then some 3 else none) 40 ?_
      refine m_isAt (p := s) (n := n) (f := upd f 6 jv) (upd_i.trans hj) ((upd_o (by decide)).trans h2) hn hsn ?_
      cases hb : isA n X 48 57 s with
      | false =>
        rw [spn_no hb, Nat.sub_self] at hc
        have hc2 := hc G1 rfl (fun _ _ => rfl)
        rw [← hj] at hc2
        exact And.intro (fun _ => hc2) (fun y => absurd rfl y)
      | true =>
        have hsl := (isA_lt hb).1
        rw [spn_yes hb] at hc
        have hge := spn_ge (n := n) (b := X) (lo := 48) (hi := 57) d (s + 1)
        have vs : vp_in jv 150 := by rw [hj]; exact in_nI (by omega) (by decide)
        have ws : jv.toNatClampNeg = s := by rw [hj]; exact nI_c (by omega)
        refine And.intro (fun y => absurd y (by decide)) (fun _ => And.intro (fun z => ?_) (fun _ => ⟨vk, vs, vk, ?_⟩))
        · exact absurd (show (4 : Int32) ≤ jv - nI q from z) (by rw [hj, sub_nI hqs]; exact nI_ge (b := 4) (by omega) (by decide))
        · have := ih (s + 1) (jv + 1) (upd G1 k (10 * G1 k + X s - 48)) q (by omega) (by omega) (by omega) (by rw [hj]; exact nI_1 s) (fun G2 q1 q2 => hc G2 ?_ (fun j hjk => (q2 j hjk).trans (upd_o hjk)))
          · rw [← ws, ← wk] at this
            exact this
          · rw [q1, upd_i, show spn n X 48 57 d (s + 1) - s = (spn n X 48 57 d (s + 1) - (s + 1)) + 1 by omega]
            rfl
  refine go hX (fun pc => if pc = 29 then some 3 else none) 40 ?_
  refine m_isAt h6 h2 hn hp ?_
  cases hb : isA n X 32 32 p with
  | false =>
    have e : numF n X p = (false, p, 0) := if_neg (by rw [hb]; decide)
    rw [e] at hQ
    have hq := hQ G (fun z => (nomatch z)) (fun _ _ => rfl)
    dsimp only at hq
    rw [← h6, upd_self] at hq
    exact And.intro (fun y => absurd rfl y) (fun _ => ⟨rfl, hq⟩)
  | true =>
    have e : numF n X p = (decide (runE n X 32 32 p < spn n X 48 57 4 (runE n X 32 32 p)) && !isA n X 48 57 (spn n X 48 57 4 (runE n X 32 32 p)), spn n X 48 57 4 (runE n X 32 32 p), digV X (runE n X 32 32 p) (spn n X 48 57 4 (runE n X 32 32 p) - runE n X 32 32 p) 0) := if_pos hb
    rw [e] at hQ
    dsimp only at hQ
    have hle := runE_le (n := n) (b := X) (lo := 32) (hi := 32) hp
    refine And.intro (fun _ => ?_) (fun y => absurd y (by decide))
    refine m_skips h6 h2 hn hp ?_
    generalize runE n X 32 32 p = q at *
    refine ⟨vk, ?_⟩
    have := loop 4 q (nI q) (upd G k 0) q rfl (Nat.le_refl _) hle rfl (fun G2 q1 q2 => ?_)
    · rw [← wk] at this
      exact this
    · refine tail q (spn n X 48 57 4 q) _ G2 rfl (spn_le _ _ hle) (spn_ge _ _) ?_
      exact hQ G2 (fun _ => by rw [q1, upd_i]) (fun j hj => (q2 j hj).trans (upd_o hj))
theorem nI_sub1 {w : Nat} (hw : w ≤ 5) (c : Nat) (hc : c ≤ 5) (cv : Int32) (hcv : cv = nI c - 1) : nI w - 1 = cv ↔ w = c := by
  rw [hcv]
  constructor
  · intro z
    have z2 : nI w = nI c := by
      have := congrArg (fun x => x + 1) z
      simpa [Int32.sub_add_cancel] using this
    exact (nI_eq (by omega) (by omega)).mp z2
  · intro z
    rw [z]
set_option maxRecDepth 20000 in
theorem m_readsOne (h6 : f 6 = nI p) (h2 : f 2 = nI n) (hn : n ≤ 150) (hp : p ≤ n) (hQ : ∀ G1 f1 : Nat → Int32, f1 6 = nI (cmdF n X p).2.1 → f1 7 = nI (cmdF n X p).2.2.1 - 1 → (∀ k, ¬ k = 6 → ¬ k = 7 → f1 k = f k) → ((cmdF n X p).1 = true → ∀ j, j < needN (cmdF n X p).2.2.1 → G1 j = (cmdF n X p).2.2.2.getD j 0) → Q (.inl (some (.int (bI (cmdF n X p).1)))) (mdW g P H X G1 f1 h)) : Tr tX10_readsOne 0 0 [.ref 0] (mdW g P H X G f h) Q := by
  refine Tr.of sX10_readsOne (by decide +kernel) (Nat.le_of_ble_eq_true rfl) fun Y hX => ?_
  have hge := runE_ge (n := n) (b := X) (lo := 97) (hi := 122) p
  have hle := runE_le (n := n) (b := X) (lo := 97) (hi := 122) hp
  have hc5 := cmdN_le (b := X) p (runE n X 97 122 p)
  unfold cmdF at hQ
  generalize hqe : runE n X 97 122 p = q at *
  -- behind the numbers
  have s109 : ∀ (s : Nat) (G1 f1 : Nat → Int32) (x y : Option Value), s ≤ n → f1 6 = nI s → f1 7 = nI (cmdN X p q) - 1 → (∀ k, ¬ k = 6 → ¬ k = 7 → f1 k = f k) → (∀ f2 : Nat → Int32, f2 6 = nI (if isA n X 59 59 (runE n X 32 32 s) = true then runE n X 32 32 (runE n X 32 32 s + 1) else runE n X 32 32 s) → f2 7 = nI (cmdN X p q) - 1 → (∀ k, ¬ k = 6 → ¬ k = 7 → f2 k = f k) → Q (.inl (some (.int (bI (isA n X 59 59 (runE n X 32 32 s)))))) (mdW g P H X G1 f2 h)) → Y 109 [some (.ref 0), x, y] [] (mdW g P H X G1 f1 h) (0, 0) := by
    intro s G1 f1 x y hs e6 e7 ek hq
    have hrl := runE_le (n := n) (b := X) (lo := 32) (hi := 32) hs
    have e2 : f1 2 = nI n := (ek 2 (by decide) (by decide)).trans h2
    refine go hX (fun _ => none) 60 ?_
    refine m_skips e6 e2 hn hs ?_
    generalize runE n X 32 32 s = t at *
    refine m_isAt (p := t) (n := n) (f := upd f1 6 (nI t)) upd_i ((upd_o (by decide)).trans e2) hn hrl ?_
    cases hb : isA n X 59 59 t with
    | false =>
      rw [hb] at hq
      refine And.intro (fun z => absurd rfl z) (fun _ => ⟨rfl, ?_⟩)
      exact hq (upd f1 6 (nI t)) upd_i ((upd_o (by decide)).trans e7) (fun k k6 k7 => (upd_o k6).trans (ek k k6 k7))
    | true =>
      rw [hb] at hq
      have htn := (isA_lt hb).1
      refine And.intro (fun _ => ?_) (fun z => absurd z (by decide))
      refine m_skips (p := t + 1) (n := n) (f := upd f1 6 (nI t + 1)) (by rw [upd_i, nI_1]) ((upd_o (by decide)).trans e2) hn htn ?_
      refine ⟨rfl, ?_⟩
      have := hq (upd f1 6 (nI (runE n X 32 32 (t + 1)))) upd_i ((upd_o (by decide)).trans e7) (fun k k6 k7 => (upd_o k6).trans (ek k k6 k7))
      rw [upd_upd]
      exact this
  have s88 : ¬ cmdN X p q = 0 → ∀ (m i s : Nat) (iv : Int32) (G1 f1 : Nat → Int32), i + m = needN (cmdN X p q) → iv = nI i → s ≤ n → f1 6 = nI s → f1 7 = nI (cmdN X p q) - 1 → (∀ k, ¬ k = 6 → ¬ k = 7 → f1 k = f k) →
      (∀ G2 f2 : Nat → Int32, f2 6 = nI (if (numsF n X m s).1 = true then (if isA n X 59 59 (runE n X 32 32 (numsF n X m s).2.1) = true then runE n X 32 32 (runE n X 32 32 (numsF n X m s).2.1 + 1) else runE n X 32 32 (numsF n X m s).2.1) else (numsF n X m s).2.1) → f2 7 = nI (cmdN X p q) - 1 → (∀ k, ¬ k = 6 → ¬ k = 7 → f2 k = f k) → (∀ j, j < i → G2 j = G1 j) → ((numsF n X m s).1 = true → ∀ j, j < m → G2 (i + j) = (numsF n X m s).2.2.getD j 0) → Q (.inl (some (.int (bI (if (numsF n X m s).1 = true then isA n X 59 59 (runE n X 32 32 (numsF n X m s).2.1) else false))))) (mdW g P H X G2 f2 h)) →
      ∀ x, Y 88 [some (.ref 0), x, some (.int (nI (needN (cmdN X p q)))), some (.int iv)] [] (mdW g P H X G1 f1 h) (0, 0) := by
    intro hw0 m
    have hn3 := needN_3 hc5
    induction m with
    | zero =>
      intro i s iv G1 f1 hi hiv hs e6 e7 ek hq x
      refine go hX (fun pc => if pc = 109 then some 3 else none) 40 ?_
      refine And.intro (fun _ => ?_) (fun z => ?_)
      · have := s109 s G1 f1 x (some (.int (nI (needN (cmdN X p q))))) hs e6 e7 ek (fun f2 a6 a7 ak => hq G1 f2 ?_ a7 ak (fun _ _ => rfl) (fun _ j hj => absurd hj (Nat.not_lt_zero _)))
        · exact this
        · rw [a6]
          rfl
      · exact absurd (show nI (needN (cmdN X p q)) ≤ iv by rw [hiv, show needN (cmdN X p q) = i by omega]; exact Int32.le_refl _) z
    | succ m ih =>
      intro i s iv G1 f1 hi hiv hs e6 e7 ek hq x
      refine go hX (fun pc => if pc = 88 then some 4 else none) 40 ?_
      refine And.intro (fun z => absurd (show nI (needN (cmdN X p q)) ≤ iv from z) (by rw [hiv]; exact nI_ge (by omega) (by omega))) (fun _ => ?_)
      have e2 : f1 2 = nI n := (ek 2 (by decide) (by decide)).trans h2
      have hnb := numF_b (b := X) hs
      refine m_number (k := i) (by omega) hiv e6 e2 hn hs (fun G2 g1 g2 => ?_)
      cases hb : (numF n X s).1 with
      | false =>
        have e : numsF n X (m + 1) s = (false, (numF n X s).2.1, []) := if_neg (by rw [hb]; decide)
        rw [e] at hq
        refine And.intro (fun z => absurd rfl z) (fun _ => ⟨rfl, ?_⟩)
        exact hq G2 (upd f1 6 (nI (numF n X s).2.1)) upd_i ((upd_o (by decide)).trans e7) (fun k k6 k7 => (upd_o k6).trans (ek k k6 k7)) (fun j hj => g2 j (by omega)) (fun z => (nomatch z))
      | true =>
        have e : numsF n X (m + 1) s = ((numsF n X m (numF n X s).2.1).1, (numsF n X m (numF n X s).2.1).2.1, (numF n X s).2.2 :: (numsF n X m (numF n X s).2.1).2.2) := if_pos hb
        rw [e] at hq
        refine And.intro (fun _ => ?_) (fun z => absurd z (by decide))
        refine ih (i + 1) (numF n X s).2.1 (iv + 1) G2 (upd f1 6 (nI (numF n X s).2.1)) (by omega) (by rw [hiv]; exact nI_1 i) hnb.2 upd_i ((upd_o (by decide)).trans e7) (fun k k6 k7 => (upd_o k6).trans (ek k k6 k7)) (fun G3 f3 a6 a7 ak aj av => ?_) x
        refine hq G3 f3 a6 a7 ak (fun j hj => (aj j (by omega)).trans (g2 j (by omega))) (fun ht j hj => ?_)
        cases j with
        | zero =>
          rw [Nat.add_zero, aj i (by omega), g1 hb]
          rfl
        | succ j =>
          have := av ht j (by omega)
          rw [show i + 1 + j = i + (j + 1) by omega] at this
          exact this
  have s85 : ¬ cmdN X p q = 0 → ∀ (G1 f1 : Nat → Int32), f1 6 = nI q → f1 7 = nI (cmdN X p q) - 1 → (∀ k, ¬ k = 6 → ¬ k = 7 → f1 k = f k) → ∀ nv, nv = nI (needN (cmdN X p q)) → Y 85 [some (.ref 0), some (.int (nI p)), none, none] [.int nv] (mdW g P H X G1 f1 h) (0, 0) := by
    intro hw0 G1 f1 e6 e7 ek nv hnv
    refine go hX (fun pc => if pc = 88 then some 4 else none) 40 ?_
    rw [if_neg hw0] at hQ
    rw [hnv]
    refine s88 hw0 (needN (cmdN X p q)) 0 q 0 G1 f1 (by omega) rfl hle e6 e7 ek (fun G2 f2 a6 a7 ak _ av => ?_) _
    generalize numsF n X (needN (cmdN X p q)) q = t at *
    cases ht : t.1 with
    | false =>
      rw [ht, if_neg (by decide)] at a6
      rw [ht, if_neg (by decide)] at hQ
      rw [if_neg (by decide)]
      exact hQ G2 f2 a6 a7 ak (fun z => (nomatch z))
    | true =>
      rw [ht, if_pos rfl] at a6
      rw [ht, if_pos rfl] at hQ
      rw [if_pos rfl]
      cases h59 : isA n X 59 59 (runE n X 32 32 t.2.1) with
      | false =>
        rw [h59, if_neg (by decide)] at a6 hQ
        exact hQ G2 f2 a6 a7 ak (fun z => (nomatch z))
      | true =>
        rw [h59, if_pos rfl] at a6 hQ
        refine hQ G2 f2 a6 a7 ak (fun _ j hj => ?_)
        have := av ht j hj
        rw [Nat.zero_add] at this
        exact this
  have s29 : ∀ (jv : Int32), jv = nI q → Y 29 [some (.ref 0), some (.int (nI p)), none, none] [] (mdW g P H X G (upd f 6 jv) h) (0, 0) := by
    intro jv hj
    refine go hX (fun pc => if pc = 85 then some 4 else none) 60 ?_
    refine m_commandAt (p := q) (fr := p) (f := upd f 6 jv) rfl (upd_i.trans hj) hge (by omega) (fun v hv => ?_)
    have w1 := nI_sub1 hc5
    by_cases hw0 : cmdN X p q = 0
    · refine And.intro (fun z => absurd (hv.trans ((w1 0 (by decide) (-1) (by decide)).mpr hw0)) z) (fun _ => ⟨rfl, ?_⟩)
      rw [if_pos hw0] at hQ
      refine hQ G (upd (upd f 7 v) 6 (nI p)) upd_i ((upd_o (by decide)).trans ?_) (fun k k6 k7 => (upd_o k6).trans (upd_o k7)) (fun z => (nomatch z))
      show v = nI 0 - 1
      rw [hv, hw0]
    · refine And.intro (fun _ => ?_) (fun z => absurd ((w1 0 (by decide) (-1) (by decide)).mp (hv.symm.trans z)) hw0)
      have s85' : ∀ nv, nv = nI (needN (cmdN X p q)) → Y 85 [some (.ref 0), some (.int (nI p)), none, none] [.int nv] (mdW g P H X G (upd (upd f 7 v) 6 jv) h) (0, 0) := s85 hw0 G (upd (upd f 7 v) 6 jv) (upd_i.trans hj) ((upd_o (by decide)).trans hv) (fun k k6 k7 => (upd_o k6).trans (upd_o k7))
      refine And.intro (fun z1 => And.intro (fun z2 => ?_) (fun z2 => And.intro (fun z3 => ?_) (fun z3 => ?_))) (fun z1 => ?_)
      · exact s85' 2 (by rw [(w1 1 (by decide) 0 (by decide)).mp (hv.symm.trans z2)]; rfl)
      · refine s85' 1 ?_
        have n1 : ¬ cmdN X p q = 2 := fun y => z1 (hv.trans ((w1 2 (by decide) 1 (by decide)).mpr y))
        have n2 : ¬ cmdN X p q = 1 := fun y => z2 (hv.trans ((w1 1 (by decide) 0 (by decide)).mpr y))
        have n3 : ¬ cmdN X p q = 4 := fun y => z3 (hv.trans ((w1 4 (by decide) 3 (by decide)).mpr y))
        have : cmdN X p q = 3 ∨ cmdN X p q = 5 := by omega
        rcases this with y | y <;> rw [y] <;> rfl
      · exact s85' 2 (by rw [(w1 4 (by decide) 3 (by decide)).mp (hv.symm.trans z3)]; rfl)
      · exact s85' 3 (by rw [(w1 2 (by decide) 1 (by decide)).mp (hv.symm.trans z1)]; rfl)
  have s5 : ∀ (d s : Nat) (jv : Int32), s + d = n → jv = nI s → runE n X 97 122 s = q → Y 5 [some (.ref 0), some (.int (nI p)), none, none] [] (mdW g P H X G (upd f 6 jv) h) (0, 0) := by
    intro d
    induction d with
    | zero =>
      intro s jv hs hj hr
      refine go hX (fun pc => if pc = 29 then some 4 else none) 40 ?_
      refine m_isAt (p := s) (n := n) (f := upd f 6 jv) (upd_i.trans hj) ((upd_o (by decide)).trans h2) hn (by omega) ?_
      have e : isA n X 97 122 s = false := isA_out (by omega)
      rw [runE_no e] at hr
      rw [e]
      exact And.intro (fun _ => s29 jv (by rw [hj, hr])) (fun z => absurd rfl z)
    | succ d ih =>
      intro s jv hs hj hr
      refine go hX (fun pc => if pc = 29 then some 4 else if pc = 5 then some 4 else none) 40 ?_
      refine m_isAt (p := s) (n := n) (f := upd f 6 jv) (upd_i.trans hj) ((upd_o (by decide)).trans h2) hn (by omega) ?_
      cases e : isA n X 97 122 s with
      | false =>
        rw [runE_no e] at hr
        exact And.intro (fun _ => s29 jv (by rw [hj, hr])) (fun z => absurd rfl z)
      | true =>
        rw [runE_step e] at hr
        exact And.intro (fun z => absurd z (by decide)) (fun _ => ih (s + 1) (jv + 1) (by omega) (by rw [hj]; exact nI_1 s) hr)
  refine go hX (fun pc => if pc = 5 then some 4 else none) 40 ?_
  have := s5 (n - p) p (f 6) (by omega) h6 hqe
  rw [upd_self, ← h6] at this
  exact this
set_option maxRecDepth 20000 in
theorem m_fault (h2 : f 2 = nI n) (hn : n ≤ 150) (hQ : ∀ G1 f1 : Nat → Int32, (∀ k, ¬ k = 6 → ¬ k = 7 → f1 k = f k) → Q (.inl (some (.int (fltF n X n (runE n X 32 32 0))))) (mdW g P H X G1 f1 h)) : Tr tX10_fault 0 0 [.ref 0] (mdW g P H X G f h) Q := by
  refine Tr.of sX10_fault (by decide +kernel) (Nat.le_of_ble_eq_true rfl) fun Y hX => ?_
  have key : ∀ (d s : Nat) (G1 f1 : Nat → Int32), n - s ≤ d → s ≤ n → f1 6 = nI s → (∀ k, ¬ k = 6 → ¬ k = 7 → f1 k = f k) → fltF n X d s = fltF n X n (runE n X 32 32 0) → Y 11 [some (.ref 0), some (.int 1)] [] (mdW g P H X G1 f1 h) (0, 0) := by
    intro d
    induction d with
    | zero =>
      intro s G1 f1 hd hs e6 ek he
      have e2 : f1 2 = nI n := (ek 2 (by decide) (by decide)).trans h2
      have hq := hQ G1 f1 ek
      rw [← he] at hq
      refine go hX (fun _ => none) 40 ?_
      refine And.intro (fun z => absurd z (by decide)) (fun _ => And.intro (fun _ => And.intro (fun z => absurd z (by decide)) (fun _ => hq)) (fun z => ?_))
      exact absurd (show f1 2 ≤ f1 6 by rw [e2, e6, show s = n by omega]; exact Int32.le_refl _) z
    | succ d ih =>
      intro s G1 f1 hd hs e6 ek he
      have e2 : f1 2 = nI n := (ek 2 (by decide) (by decide)).trans h2
      refine go hX (fun pc => if pc = 11 then some 2 else none) 40 ?_
      refine And.intro (fun z => absurd z (by decide)) (fun _ => And.intro (fun z => ?_) (fun z => ?_))
      · have hsn : ¬ s < n := fun y => absurd (show f1 2 ≤ f1 6 from z) (by rw [e2, e6]; exact nI_ge y (by omega))
        have e : fltF n X (d + 1) s = -1 := if_neg hsn
        rw [e] at he
        have hq := hQ G1 f1 ek
        rw [← he] at hq
        exact And.intro (fun z => absurd z (by decide)) (fun _ => hq)
      · have hsn : s < n := by
          rcases Nat.lt_or_ge s n with y | y
          · exact y
          · exact absurd (show f1 2 ≤ f1 6 by rw [e2, e6]; exact nI_le y (by omega)) z
        have e : fltF n X (d + 1) s = if (cmdF n X s).1 = true then fltF n X d (cmdF n X s).2.1 else nI (cmdF n X s).2.1 := if_pos hsn
        rw [e] at he
        have hcb := cmdF_b (b := X) hs
        refine m_readsOne e6 e2 hn hs (fun G2 f2 a6 a7 ak _ => ?_)
        have ak2 : ∀ k, ¬ k = 6 → ¬ k = 7 → f2 k = f k := fun k k6 k7 => (ak k k6 k7).trans (ek k k6 k7)
        cases hb : (cmdF n X s).1 with
        | true =>
          rw [hb, if_pos rfl] at he
          exact ih (cmdF n X s).2.1 G2 f2 (by have := hcb.2.2.1 hb; omega) hcb.2.1 a6 ak2 he
        | false =>
          rw [hb, if_neg (by decide)] at he
          have hq := hQ G2 f2 ak2
          rw [← he, ← a6] at hq
          refine go hX (fun _ => none) 40 ?_
          exact And.intro (fun _ => And.intro (fun _ => hq) (fun z => absurd rfl z)) (fun z => absurd rfl z)
  refine go hX (fun pc => if pc = 11 then some 2 else none) 40 ?_
  refine m_skips (p := 0) (n := n) (f := upd f 6 0) (upd_i.trans (by decide)) ((upd_o (by decide)).trans h2) hn (Nat.zero_le _) ?_
  exact key n (runE n X 32 32 0) G (upd (upd f 6 0) 6 (nI (runE n X 32 32 0))) (by omega) (runE_le (Nat.zero_le _)) upd_i (fun k k6 _ => (upd_o k6).trans (upd_o k6)) rfl
