/-! ===== the reference: runs of ticks, holding and letting go, saving ===== -/
variable {g P H X G f : Nat → Int32} {h : Int64} {Q : AQ} {T : Nat} {s : Sg}
def RB (s : Sg) : Prop := s.2.1.length ≤ 12 ∧ s.2.2.length ≤ 10
theorem Inv.rb (h : Inv T s) : RB s := by
  obtain ⟨w, t, -, -, -, -, e⟩ := h.2.2.2.2
  exact ⟨h.2.1, by omega⟩
theorem RS.cg {g g1 : Nat → Int32} (h : RS g s) (hb : RB s) (h1 : ∀ k, k < 133 → g1 k = g k) : RS g1 s := by
  obtain ⟨a, b, c, d, e⟩ := h
  refine ⟨fun k hk => (h1 k (by omega)).trans (a k hk), (h1 21 (by decide)).trans b, (h1 22 (by decide)).trans c, fun k r hr j hj => ?_, fun k r hr j hj => ?_⟩
  · have := (List.getElem?_eq_some_iff.mp hr).1
    have := hb.1
    exact (h1 _ (by omega)).trans (d k r hr j hj)
  · have := (List.getElem?_eq_some_iff.mp hr).1
    have := hb.2
    exact (h1 _ (by omega)).trans (e k r hr j hj)
theorem upd5_5 {f : Nat → Int32} {x y : Int32} : upd (upd f 5 x) 5 y = upd f 5 y := by
  funext k
  unfold upd
  split <;> rfl
theorem upd_self {f : Nat → Int32} {i : Nat} : upd f i (f i) = f := by
  funext k
  unfold upd
  split
  · rename_i hk; rw [hk]
  · rfl
set_option maxRecDepth 20000 in
theorem m_finishes (hR : RS g s) (hI : Inv T s) (hQ : ∀ g1 x5, RS g1 (runS 500 s).2 → Q (.inl (some (.int (nI (runS 500 s).1)))) (mdW g1 P H X G (upd f 5 x5) h)) : Tr tX10_finishes 0 0 [.ref 0] (mdW g P H X G f h) Q := by
  refine Tr.of sX10_finishes (by decide +kernel) (Nat.le_of_ble_eq_true rfl) fun Y hX => ?_
  have key : ∀ (d i : Nat) (jv : Int32) (s : Sg) (g : Nat → Int32) (x : Int32), i + d = 500 → jv = nI i → Inv T s → RS g s → (∀ g1 x5, RS g1 (runS d s).2 → Q (.inl (some (.int (nI (i + (runS d s).1))))) (mdW g1 P H X G (upd f 5 x5) h)) → Y 2 [some (.ref 0), some (.int jv)] [] (mdW g P H X G (upd f 5 x) h) (0, 0) := by
    intro d
    induction d with
    | zero =>
      intro i jv s g x hi hj hI hR hq
      refine go hX (fun _ => none) 40 ?_
      refine And.intro (fun _ => ?_) (fun h => absurd (by rw [hj, show i = 500 by omega]; exact Int32.le_refl _) h)
      rw [hj]
      exact hq g x hR
    | succ d ih =>
      intro i jv s g x hi hj hI hR hq
      refine go hX (fun pc => if pc = 2 then some 2 else none) 40 ?_
      have g21 := hR.2.1
      refine And.intro (fun h => absurd h (by rw [hj]; exact nI_ge (b := 500) (by omega) (by decide))) (fun _ => ⟨in_lit (by decide), And.intro (fun h => ?_) (fun h => ?_)⟩)
      · have h0 : s.2.1.length = 0 := by
          rcases Nat.eq_zero_or_pos s.2.1.length with h0 | h0
          · exact h0
          · exact absurd (show nI s.2.1.length ≤ 0 by rw [← g21]; exact h) (nI_nle h0 (by have := hI.2.1; omega))
        have e : runS (d + 1) s = (0, s) := if_pos h0
        rw [e] at hq
        rw [hj]
        exact hq g x hR
      · have h0 : ¬ s.2.1.length = 0 := fun z => h (show g 21 ≤ 0 by rw [g21, z]; decide)
        have e : runS (d + 1) s = ((runS d (tickS s)).1 + 1, (runS d (tickS s)).2) := if_neg h0
        rw [e] at hq
        refine m_ticks (f := upd f 5 x) hR hI (fun g1 hR1 => ?_)
        rw [upd5_5]
        refine ih (i + 1) (jv + 1) (tickS s) g1 _ (by omega) (by rw [hj]; exact nI_1 i) (inv_tick hI) hR1 (fun g2 x2 hR2 => ?_)
        rw [show i + 1 + (runS d (tickS s)).1 = i + ((runS d (tickS s)).1 + 1) by omega]
        exact hq g2 x2 hR2
  refine go hX (fun pc => if pc = 2 then some 2 else none) 40 ?_
  refine key 500 0 0 s g (f 5) (by omega) rfl hI hR (fun g1 x5 h => ?_)
  rw [Nat.zero_add]
  exact hQ g1 x5 h
set_option maxRecDepth 20000 in
theorem m_holds (hQ : ∀ H1, (∀ k, k < 133 → H1 k = g k) → Q (.inl none) (mdW g P H1 X G f h)) : Tr tX10_holds 0 0 [.ref 0] (mdW g P H X G f h) Q := by
  refine Tr.of sX10_holds (by decide +kernel) (Nat.le_of_ble_eq_true rfl) fun Y hX => ?_
  have key : ∀ (d i : Nat) (jv : Int32) (H1 : Nat → Int32), i + d = 133 → jv = nI i → (∀ k, k < i → H1 k = g k) → Y 2 [some (.ref 0), some (.int jv)] [] (mdW g P H1 X G f h) (0, 0) := by
    intro d
    induction d with
    | zero =>
      intro i jv H1 hi hj h1
      refine go hX (fun _ => none) 40 ?_
      exact And.intro (fun _ => hQ H1 (by rw [show 133 = i by omega]; exact h1)) (fun h => absurd (by rw [hj, show i = 133 by omega]; exact Int32.le_refl _) h)
    | succ d ih =>
      intro i jv H1 hi hj h1
      have v0 : vp_in jv 133 := by rw [hj]; exact in_nI (by omega) (by decide)
      have v1 : jv.toNatClampNeg = i := by rw [hj]; exact nI_clamp (by omega)
      refine go hX (fun pc => if pc = 2 then some 2 else none) 40 ?_
      refine And.intro (fun h => absurd h (by rw [hj]; exact nI_ge (b := 133) (by omega) (by decide))) (fun _ => ⟨v0, v0, ?_⟩)
      rw [v1]
      refine ih (i + 1) (jv + 1) _ (by omega) (by rw [hj]; exact nI_1 i) (fun k hk => ?_)
      show upd H1 i (g i) k = g k
      unfold upd
      split
      · rename_i hk2; rw [hk2]
      · exact h1 k (by omega)
  refine go hX (fun pc => if pc = 2 then some 2 else none) 40 ?_
  exact key 133 0 0 H (by omega) rfl (fun k hk => absurd hk (Nat.not_lt_zero _))
set_option maxRecDepth 20000 in
theorem m_lets (hQ : ∀ g1, (∀ k, k < 133 → g1 k = H k) → Q (.inl none) (mdW g1 P H X G f h)) : Tr tX10_lets 0 0 [.ref 0] (mdW g P H X G f h) Q := by
  refine Tr.of sX10_lets (by decide +kernel) (Nat.le_of_ble_eq_true rfl) fun Y hX => ?_
  have key : ∀ (d i : Nat) (jv : Int32) (H1 : Nat → Int32), i + d = 133 → jv = nI i → (∀ k, k < i → H1 k = H k) → Y 2 [some (.ref 0), some (.int jv)] [] (mdW H1 P H X G f h) (0, 0) := by
    intro d
    induction d with
    | zero =>
      intro i jv H1 hi hj h1
      refine go hX (fun _ => none) 40 ?_
      exact And.intro (fun _ => hQ H1 (by rw [show 133 = i by omega]; exact h1)) (fun h => absurd (by rw [hj, show i = 133 by omega]; exact Int32.le_refl _) h)
    | succ d ih =>
      intro i jv H1 hi hj h1
      have v0 : vp_in jv 133 := by rw [hj]; exact in_nI (by omega) (by decide)
      have v1 : jv.toNatClampNeg = i := by rw [hj]; exact nI_clamp (by omega)
      refine go hX (fun pc => if pc = 2 then some 2 else none) 40 ?_
      refine And.intro (fun h => absurd h (by rw [hj]; exact nI_ge (b := 133) (by omega) (by decide))) (fun _ => ⟨v0, v0, ?_⟩)
      rw [v1]
      refine ih (i + 1) (jv + 1) _ (by omega) (by rw [hj]; exact nI_1 i) (fun k hk => ?_)
      show upd H1 i (H i) k = H k
      unfold upd
      split
      · rename_i hk2; rw [hk2]
      · exact h1 k (by omega)
  refine go hX (fun pc => if pc = 2 then some 2 else none) 40 ?_
  exact key 133 0 0 g (by omega) rfl (fun k hk => absurd hk (Nat.not_lt_zero _))
def PR (P : Nat → Int32) (ps : List Sg) : Prop := ∀ (i : Nat) (x : Sg), ps[i]? = some x → RS (fun k => P (133 * i + k)) x ∧ RB x
def pushS (ps : List Sg) (s : Sg) : List Sg := if ps.length = 4 then ps.drop 1 ++ [s] else ps ++ [s]
theorem pushS_len {ps : List Sg} (h : ps.length ≤ 4) : (pushS ps s).length = min (ps.length + 1) 4 := by
  unfold pushS
  split
  · rw [List.length_append, List.length_drop, List.length_singleton]; omega
  · rw [List.length_append, List.length_singleton]; omega
set_option maxRecDepth 20000 in
theorem m_saves0 (hr : ¬ f 1 = 0) (hQ : Q (.inl none) (mdW g P H X G f h)) : Tr tX10_saves 0 0 [.ref 0] (mdW g P H X G f h) Q := by
  refine Tr.run sX10_saves (by decide +kernel) rfl 60 fun X => ?_
  exact And.intro (fun z => absurd z hr) (fun _ => hQ)
set_option maxRecDepth 20000 in
theorem m_saves {ps : List Sg} (hr : f 1 = 0) (h0 : f 0 = nI ps.length) (hp4 : ps.length ≤ 4) (hP : PR P ps) (hR : RS g s) (hb : RB s) (hQ : ∀ P1, PR P1 (pushS ps s) → Q (.inl none) (mdW g P1 H X G (upd f 0 (nI (pushS ps s).length)) h)) : Tr tX10_saves 0 0 [.ref 0] (mdW g P H X G f h) Q := by
  refine Tr.of sX10_saves (by decide +kernel) (Nat.le_of_ble_eq_true rfl) fun Y hX => ?_
  -- the copy
  have key2 : ∀ (c : Nat), c ≤ 3 → ∀ (d i : Nat) (jv : Int32) (P0 P1 : Nat → Int32), i + d = 133 → jv = nI i → (∀ k, k < i → P1 (133 * c + k) = g k) → (∀ k, k < 133 * c → P1 k = P0 k) → (∀ P2 : Nat → Int32, (∀ k, k < 133 → P2 (133 * c + k) = g k) → (∀ k, k < 133 * c → P2 k = P0 k) → Q (.inl none) (mdW g P2 H X G (upd f 0 (nI c + 1)) h)) → Y 59 [some (.ref 0), some (.int jv)] [] (mdW g P1 H X G (upd f 0 (nI c)) h) (0, 0) := by
    intro c hc d
    induction d with
    | zero =>
      intro i jv P0 P1 hi hj h1 h2 hq
      refine go hX (fun _ => none) 40 ?_
      exact And.intro (fun _ => hq P1 (by rw [show 133 = i by omega] at h1 ⊢; exact h1) h2) (fun h => absurd (by rw [hj, show i = 133 by omega]; exact Int32.le_refl _) h)
    | succ d ih =>
      intro i jv P0 P1 hi hj h1 h2 hq
      have v0 : vp_in jv 133 := by rw [hj]; exact in_nI (by omega) (by decide)
      have v1 : jv.toNatClampNeg = i := by rw [hj]; exact nI_clamp (by omega)
      have e2 : (133 : Int32) * nI c + jv = nI (133 * c + i) := by rw [hj, show (133 : Int32) = nI 133 from rfl, mul_nI, nI_add]
      have v2 : vp_in ((133 : Int32) * nI c + jv) 532 := by rw [e2]; exact in_nI (by omega) (by decide)
      have v3 : ((133 : Int32) * nI c + jv).toNatClampNeg = 133 * c + i := by rw [e2]; exact nI_clamp (by omega)
      refine go hX (fun pc => if pc = 59 then some 2 else none) 40 ?_
      refine And.intro (fun h => absurd h (by rw [hj]; exact nI_ge (b := 133) (by omega) (by decide))) (fun _ => ⟨v0, v2, ?_⟩)
      have := ih (i + 1) (jv + 1) P0 (upd P1 (133 * c + i) (g i)) (by omega) (by rw [hj]; exact nI_1 i) (fun k hk => ?_) (fun k hk => ?_) hq
      · rw [← v3, ← v1] at this
        rw [v1] at this ⊢
        exact this
      · unfold upd
        split
        · rename_i hk2; rw [show k = i by omega]
        · exact h1 k (by omega)
      · rw [upd_o (by omega)]
        exact h2 k hk
  have hlen := pushS_len (s := s) hp4
  -- the shift
  have key1 : ∀ (d i : Nat) (jv : Int32) (P1 : Nat → Int32), i + d = 399 → jv = nI i → (∀ k, k < i → P1 k = P (k + 133)) → (∀ k, i ≤ k → P1 k = P k) → ps.length = 4 → Y 18 [some (.ref 0), some (.int jv)] [] (mdW g P1 H X G f h) (0, 0) := by
    intro d
    induction d with
    | zero =>
      intro i jv P1 hi hj h1 h2 h4
      refine go hX (fun pc => if pc = 59 then some 2 else none) 40 ?_
      refine And.intro (fun _ => ?_) (fun h => absurd (by rw [hj, show i = 399 by omega]; exact Int32.le_refl _) h)
      have e3 : f 0 - 1 = nI 3 := by rw [h0, h4]; rfl
      have := key2 3 (by decide) 133 0 0 P1 P1 (by omega) rfl (fun k hk => absurd hk (Nat.not_lt_zero _)) (fun k _ => rfl) (fun P2 p1 p2 => ?_)
      · rw [← e3] at this
        exact this
      · have := hQ P2 (fun j x hx => ?_)
        · rw [hlen, h4] at this
          exact this
        · unfold pushS at hx
          rw [if_pos h4] at hx
          by_cases hj3 : j < 3
          · rw [List.getElem?_append_left (by rw [List.length_drop]; omega), List.getElem?_drop] at hx
            obtain ⟨q1, q2⟩ := hP (1 + j) x hx
            refine ⟨q1.cg q2 (fun k hk => ?_), q2⟩
            show P2 (133 * j + k) = P (133 * (1 + j) + k)
            rw [p2 _ (by omega), h1 _ (by omega)]
            congr 1
            omega
          · rw [List.getElem?_append_right (by rw [List.length_drop]; omega), List.length_drop, h4] at hx
            have : j - (4 - 1) = 0 := by
              have := (List.getElem?_eq_some_iff.mp hx).1
              rw [List.length_singleton] at this
              omega
            rw [this] at hx
            cases hx
            refine ⟨hR.cg hb (fun k hk => ?_), hb⟩
            show P2 (133 * j + k) = g k
            rw [show j = 3 by omega]
            exact p1 k hk
    | succ d ih =>
      intro i jv P1 hi hj h1 h2 h4
      have v0 : vp_in jv 532 := by rw [hj]; exact in_nI (by omega) (by decide)
      have v1 : jv.toNatClampNeg = i := by rw [hj]; exact nI_clamp (by omega)
      have e2 : jv + 133 = nI (i + 133) := by rw [hj]; exact nI_add i 133
      have v2 : vp_in (jv + 133) 532 := by rw [e2]; exact in_nI (by omega) (by decide)
      have v3 : (jv + 133).toNatClampNeg = i + 133 := by rw [e2]; exact nI_clamp (by omega)
      refine go hX (fun pc => if pc = 18 then some 2 else none) 40 ?_
      refine And.intro (fun h => absurd h (by rw [hj]; exact nI_ge (b := 399) (by omega) (by decide))) (fun _ => ⟨v2, v0, ?_⟩)
      rw [v1, v3]
      refine ih (i + 1) (jv + 1) _ (by omega) (by rw [hj]; exact nI_1 i) (fun k hk => ?_) (fun k hk => ?_) h4
      · show upd P1 i (P1 (i + 133)) k = _
        unfold upd
        split
        · rename_i hk2; rw [hk2]; exact h2 _ (by omega)
        · exact h1 k (by omega)
      · show upd P1 i (P1 (i + 133)) k = _
        rw [upd_o (by omega)]
        exact h2 k (by omega)
  refine go hX (fun pc => if pc = 59 then some 2 else if pc = 18 then some 2 else none) 40 ?_
  refine And.intro (fun _ => And.intro (fun h4 => ?_) (fun h4 => ?_)) (fun z => absurd hr z)
  · have hn4 : ¬ ps.length = 4 := fun z => h4 (by rw [h0, z]; rfl)
    have := key2 ps.length (by omega) 133 0 0 P P (by omega) rfl (fun k hk => absurd hk (Nat.not_lt_zero _)) (fun k _ => rfl) (fun P2 p1 p2 => ?_)
    · rw [← h0] at this
      exact this
    · have := hQ P2 (fun j x hx => ?_)
      · rw [show (pushS ps s).length = ps.length + 1 by omega, ← nI_1] at this
        exact this
      · unfold pushS at hx
        rw [if_neg hn4] at hx
        by_cases hj3 : j < ps.length
        · rw [List.getElem?_append_left hj3] at hx
          obtain ⟨q1, q2⟩ := hP j x hx
          refine ⟨q1.cg q2 (fun k hk => ?_), q2⟩
          show P2 (133 * j + k) = P (133 * j + k)
          exact p2 _ (by omega)
        · rw [List.getElem?_append_right (by omega)] at hx
          have : j - ps.length = 0 := by
            have := (List.getElem?_eq_some_iff.mp hx).1
            rw [List.length_singleton] at this
            omega
          rw [this] at hx
          cases hx
          refine ⟨hR.cg hb (fun k hk => ?_), hb⟩
          show P2 (133 * j + k) = g k
          rw [show j = ps.length by omega]
          exact p1 k hk
  · have hy4 : ps.length = 4 := by
      rw [h0] at h4
      exact (nI_eq (b := 4) (by omega) (by decide)).mp h4
    exact key1 399 0 0 P (by omega) rfl (fun k hk => absurd hk (Nat.not_lt_zero _)) (fun k _ => rfl) hy4
