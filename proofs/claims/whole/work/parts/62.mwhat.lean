/-! ===== the reference: what if ===== -/
variable {g P H X G f : Nat → Int32} {h : Int64} {Q : AQ} {T : Nat} {s : Sg}
def Wq (Q : AQ) (P X G f : Nat → Int32) (h : Int64) (s : Sg) (v : Int32) : Prop := ∀ g1 H1 f1 : Nat → Int32, RS g1 s → (∀ k, ¬ k = 5 → f1 k = f k) → Q (.inl (some (.int v))) (mdW g1 P H1 X G f1 h)
def wayS (s : Sg) (way : Int32) : Sg := (upd s.1 2 way, s.2)
theorem inv_way {way : Int32} (hI : Inv T s) (hw : 0 ≤ way.toInt ∧ way.toInt ≤ 3) : Inv T (wayS s way) := by
  obtain ⟨h0, h1, h2, h3, h4, h5, h6, h7, h8, h9⟩ := hI.1
  exact inv_u hI ⟨h0, h1, hw, h3, h4, h5, h6, h7, h8, h9⟩ rfl rfl
def fcS (s : Sg) (way : Int32) : Nat × Sg := runS 500 (wayS s way)
def valV (s : Sg) (way : Int32) (j : Nat) : Int32 :=
  if j = 0 then nI (fcS s way).1 else if j = 1 then (fcS s way).2.1 8 - s.1 8 else if j = 2 then (fcS s way).2.1 9 - s.1 9 else if j = 3 then (fcS s way).2.1 11 - s.1 11 else if j = 4 then (fcS s way).2.1 18
  else 1000 * ((fcS s way).2.1 9 - s.1 9 + (fcS s way).2.1 10 - s.1 10) + nI (fcS s way).1
set_option maxRecDepth 20000 in
theorem m_valueBy {way wv : Int32} {j : Nat} (hR : RS g s) (hI : Inv T s) (hw : 0 ≤ way.toInt ∧ way.toInt ≤ 3) (hj : wv = nI j) (hj5 : j ≤ 5) (hQ : Wq Q P X G f h s (valV s way j)) : Tr tX10_valueBy 0 0 [.ref 0, .int way, .int wv] (mdW g P H X G f h) Q := by
  refine Tr.of sX10_valueBy (by decide +kernel) (Nat.le_of_ble_eq_true rfl) fun Y hX => ?_
  refine go hX (fun pc => if pc = 151 then some 6 else none) 100 ?_
  refine m_holds (fun H1 hH1 => ⟨in_lit (by decide), ?_⟩)
  refine m_finishes (g := upd g 2 way) (s := wayS s way) (hR.sc (fun k hk => upd_c (hR.1 k hk) rfl) (fun k hk => upd_o (by omega))) (inv_way hI hw) (fun g1 x1 hR1 => ?_)
  have fin : ∀ v x : Int32, valV s way j = v → Y 151 [some (.ref 0), some (.int way), some (.int wv), some (.int (nI (fcS s way).1)), some (.int x), some (.int v)] [] (mdW g1 P H1 X G (upd f 5 x1) h) (0, 0) := by
    intro v x hv
    rw [hv] at hQ
    refine go hX (fun _ => none) 40 ?_
    refine m_lets (fun g2 hg2 => ?_)
    exact hQ g2 H1 (upd f 5 x1) (hR.cg hI.rb (fun k hk => (hg2 k hk).trans (hH1 k hk))) (fun k h5 => upd_o h5)
  have r8 : g1 8 = (fcS s way).2.1 8 := hR1.1 8 (by decide)
  have r9 : g1 9 = (fcS s way).2.1 9 := hR1.1 9 (by decide)
  have r10 : g1 10 = (fcS s way).2.1 10 := hR1.1 10 (by decide)
  have r11 : g1 11 = (fcS s way).2.1 11 := hR1.1 11 (by decide)
  have r18 : g1 18 = (fcS s way).2.1 18 := hR1.1 18 (by decide)
  have t8 : H1 8 = s.1 8 := (hH1 8 (by decide)).trans (hR.1 8 (by decide))
  have t9 : H1 9 = s.1 9 := (hH1 9 (by decide)).trans (hR.1 9 (by decide))
  have t10 : H1 10 = s.1 10 := (hH1 10 (by decide)).trans (hR.1 10 (by decide))
  have t11 : H1 11 = s.1 11 := (hH1 11 (by decide)).trans (hR.1 11 (by decide))
  have ej : ∀ c : Nat, c < 6 → (wv = nI c ↔ j = c) := fun c hc => by rw [hj]; exact nI_eq (by omega) (by omega)
  unfold valV at fin
  refine ⟨in_lit (by decide), in_lit (by decide), in_lit (by decide), in_lit (by decide), And.intro (fun w0 => And.intro (fun w1 => And.intro (fun w2 => And.intro (fun w3 => And.intro (fun w4 => ?_) (fun w4 => ⟨in_lit (by decide), ?_⟩)) (fun w3 => ⟨in_lit (by decide), in_lit (by decide), ?_⟩)) (fun w2 => ⟨in_lit (by decide), in_lit (by decide), ?_⟩)) (fun w1 => ⟨in_lit (by decide), in_lit (by decide), ?_⟩)) (fun w0 => ?_)⟩
  · refine fin (1000 * (g1 9 - H1 9 + g1 10 - H1 10) + nI (fcS s way).1) _ ?_
    rw [if_neg (fun z => w0 ((ej 0 (by decide)).mpr z)), if_neg (fun z => w1 ((ej 1 (by decide)).mpr z)), if_neg (fun z => w2 ((ej 2 (by decide)).mpr z)), if_neg (fun z => w3 ((ej 3 (by decide)).mpr z)), if_neg (fun z => w4 ((ej 4 (by decide)).mpr z)), r9, r10, t9, t10]
  · refine fin (g1 18) _ ?_
    rw [if_neg (fun z => w0 ((ej 0 (by decide)).mpr z)), if_neg (fun z => w1 ((ej 1 (by decide)).mpr z)), if_neg (fun z => w2 ((ej 2 (by decide)).mpr z)), if_neg (fun z => w3 ((ej 3 (by decide)).mpr z)), if_pos ((ej 4 (by decide)).mp w4), r18]
  · refine fin (g1 11 - H1 11) _ ?_
    rw [if_neg (fun z => w0 ((ej 0 (by decide)).mpr z)), if_neg (fun z => w1 ((ej 1 (by decide)).mpr z)), if_neg (fun z => w2 ((ej 2 (by decide)).mpr z)), if_pos ((ej 3 (by decide)).mp w3), r11, t11]
  · refine fin (g1 9 - H1 9) _ ?_
    rw [if_neg (fun z => w0 ((ej 0 (by decide)).mpr z)), if_neg (fun z => w1 ((ej 1 (by decide)).mpr z)), if_pos ((ej 2 (by decide)).mp w2), r9, t9]
  · refine fin (g1 8 - H1 8) _ ?_
    rw [if_neg (fun z => w0 ((ej 0 (by decide)).mpr z)), if_pos ((ej 1 (by decide)).mp w1), r8, t8]
  · refine fin (nI (fcS s way).1) _ ?_
    rw [if_pos ((ej 0 (by decide)).mp w0)]
def heatV (s : Sg) (n : Nat) : Int32 := (passS n s).1 18
set_option maxRecDepth 20000 in
theorem m_heat {t : Int32} {n : Nat} (hR : RS g s) (hI : Inv T s) (ht : t = nI n) (hn : n < 1000) (hQ : Wq Q P X G f h s (heatV s n)) : Tr tX10_heatBehind 0 0 [.ref 0, .int t] (mdW g P H X G f h) Q := by
  refine Tr.of sX10_heatBehind (by decide +kernel) (Nat.le_of_ble_eq_true rfl) fun Y hX => ?_
  refine go hX (fun pc => if pc = 6 then some 3 else none) 40 ?_
  refine m_holds (fun H1 hH1 => ?_)
  have key : ∀ (d i : Nat) (jv : Int32) (s1 : Sg) (g1 : Nat → Int32) (x : Int32), i + d = n → jv = nI i → Inv T s1 → RS g1 s1 → passS d s1 = passS n s → Y 6 [some (.ref 0), some (.int t), some (.int jv)] [] (mdW g1 P H1 X G (upd f 5 x) h) (0, 0) := by
    intro d
    induction d with
    | zero =>
      intro i jv s1 g1 x hi hj hIs hRs he
      refine go hX (fun _ => none) 40 ?_
      refine And.intro (fun _ => ⟨in_lit (by decide), ?_⟩) (fun h => absurd (by rw [ht, hj, show i = n by omega]; exact Int32.le_refl _) h)
      refine m_lets (fun g2 hg2 => ?_)
      have e18 : g1 18 = heatV s n := (hRs.1 18 (by decide)).trans (by unfold heatV; rw [← he]; rfl)
      have := hQ g2 H1 (upd f 5 x) (hR.cg hI.rb (fun k hk => (hg2 k hk).trans (hH1 k hk))) (fun k h5 => upd_o h5)
      rw [← e18] at this
      exact this
    | succ d ih =>
      intro i jv s1 g1 x hi hj hIs hRs he
      refine go hX (fun pc => if pc = 6 then some 3 else none) 40 ?_
      refine And.intro (fun h => absurd h (by rw [ht, hj]; exact nI_ge (by omega) (by omega))) (fun _ => ?_)
      refine m_ticks (f := upd f 5 x) hRs hIs (fun g2 hR2 => ?_)
      rw [upd5_5]
      exact ih (i + 1) (jv + 1) (tickS s1) g2 _ (by omega) (by rw [hj]; exact nI_1 i) (inv_tick hIs) hR2 he
  exact key n 0 0 s g (f 5) (by omega) rfl hI hR rfl
/-- the best way so far, of the ways below k -/
def bestM (s : Sg) : Nat → Nat
  | 0 => 0
  | 1 => 0
  | k + 1 => if valV s (nI (bestM s k)) 5 ≤ valV s (nI k) 5 then bestM s k else k
theorem bestM_lt (s : Sg) : ∀ k, bestM s k < 4 ∨ 4 < k
  | 0 => Or.inl (show 0 < 4 by decide)
  | 1 => Or.inl (show 0 < 4 by decide)
  | k + 2 => by
    rcases bestM_lt s (k + 1) with h | h
    · rcases Nat.lt_or_ge 4 (k + 2) with h2 | h2
      · exact Or.inr h2
      · refine Or.inl ?_
        show (if _ then bestM s (k + 1) else k + 1) < 4
        split
        · exact h
        · exact h2
    · exact Or.inr (by omega)
theorem nI_03 {k : Nat} (h : k < 4) : 0 ≤ (nI k).toInt ∧ (nI k).toInt ≤ 3 := by
  rw [nI_toInt (by omega)]
  omega
set_option maxRecDepth 20000 in
theorem m_best (hR : RS g s) (hI : Inv T s) (hQ : Wq Q P X G f h s (nI (bestM s 4))) : Tr tX10_best 0 0 [.ref 0] (mdW g P H X G f h) Q := by
  refine Tr.of sX10_best (by decide +kernel) (Nat.le_of_ble_eq_true rfl) fun Y hX => ?_
  have key : ∀ (d i : Nat) (jv : Int32) (g1 H1 f1 : Nat → Int32), i + d = 4 → 1 ≤ i → jv = nI i → RS g1 s → (∀ k, ¬ k = 5 → f1 k = f k) → Y 4 [some (.ref 0), some (.int (nI (bestM s i))), some (.int jv)] [] (mdW g1 P H1 X G f1 h) (0, 0) := by
    intro d
    induction d with
    | zero =>
      intro i jv g1 H1 f1 hi h1 hj hRs hf1
      rw [show i = 4 by omega] at *
      refine go hX (fun _ => none) 40 ?_
      exact And.intro (fun _ => hQ g1 H1 f1 hRs hf1) (fun h => absurd (by rw [hj]; exact Int32.le_refl _) h)
    | succ d ih =>
      intro i jv g1 H1 f1 hi h1 hj hRs hf1
      have hb : bestM s i < 4 := (bestM_lt s i).resolve_right (by omega)
      obtain ⟨m, rfl⟩ : ∃ m, i = m + 1 := ⟨i - 1, by omega⟩
      have e : bestM s (m + 1 + 1) = if valV s (nI (bestM s (m + 1))) 5 ≤ valV s (nI (m + 1)) 5 then bestM s (m + 1) else m + 1 := rfl
      refine go hX (fun pc => if pc = 4 then some 3 else none) 40 ?_
      refine And.intro (fun h => absurd h (by rw [hj]; exact nI_ge (b := 4) (by omega) (by decide))) (fun _ => ?_)
      refine m_valueBy (j := 5) hRs hI (by rw [hj]; exact nI_03 (by omega)) (show (5 : Int32) = nI 5 from rfl) (by decide) (fun g2 H2 f2 hR2 hf2 => ?_)
      refine m_valueBy (j := 5) hR2 hI (nI_03 hb) (show (5 : Int32) = nI 5 from rfl) (by decide) (fun g3 H3 f3 hR3 hf3 => ?_)
      have ih1 := ih (m + 1 + 1) (jv + 1) g3 H3 f3 (by omega) (by omega) (by rw [hj]; exact nI_1 _) hR3 (fun k h5 => (hf3 k h5).trans ((hf2 k h5).trans (hf1 k h5)))
      rw [hj]
      rw [hj] at ih1
      refine And.intro (fun h => ?_) (fun h => ?_)
      · rw [e, if_pos h] at ih1
        exact ih1
      · rw [e, if_neg h] at ih1
        exact ih1
  refine go hX (fun pc => if pc = 4 then some 3 else none) 40 ?_
  exact key 3 1 1 g H f (by decide) (by decide) rfl hR (fun _ _ => rfl)
