/-! ===== State: beginTick, endTick, and the runs of ticks ===== -/
variable {S : Nat → Int32} {R : Nat → Nat → Int32} {L : Nat → Int32} {Q : AQ} {T : Nat} {s : Sg}
def stS (s : Sg) (S : Nat → Int32) (R : Nat → Nat → Int32) (L : Nat → Int32) : AM := stA 0 s.1 (nI s.2.1.length) S R L
def CS (T : Nat) (s : Sg) (S : Nat → Int32) (R : Nat → Nat → Int32) (L : Nat → Int32) : Prop := (∀ j, j < 4 → S j = s.1 (2 + j)) ∧ RqOk R s.2.1 ∧ ∃ w t : Nat, s.1 8 = nI w ∧ s.1 7 = nI t ∧ w + s.2.1.length ≤ t ∧ t ≤ T ∧ LgOk L w s.2.2
theorem rk_eq {u : Nat → Int32} {R : Nat → Nat → Int32} {rs : List Rq} (h : RqOk R rs) (way sw : Int32) : pick (rkF u R way sw) rs.length = lowS u rs way sw := by
  refine pick_eq fun k hk => ?_
  have := h k rs[k] (List.getElem?_eq_getElem hk)
  unfold rkF rkS
  rw [this 1 (by decide), this 3 (by decide), this 0 (by decide), List.getD_eq_getElem?_getD, List.getElem?_eq_getElem hk]
  rfl
theorem CS.u {s : Sg} (h : CS T s S R L) {u : Nat → Int32} (h2 : ∀ j, j < 4 → u (2 + j) = s.1 (2 + j)) (h8 : u 8 = s.1 8) (h7 : u 7 = s.1 7) : CS T (u, s.2) S R L := by
  obtain ⟨a, b, w, t, c, d, e⟩ := h
  exact ⟨fun j hj => (a j hj).trans (h2 j hj).symm, b, w, t, h8.trans c, h7.trans d, e⟩
theorem toI_ne0 {x : Int32} (h : 0 < x.toInt) : ¬ x = 0 := by
  intro z
  rw [z] at h
  exact absurd h (by decide)
set_option maxRecDepth 20000 in
theorem c_begin (hI : Inv T s) (hT : T + 12 < 2 ^ 31) (hC : CS T s S R L) (hQ : ∀ R1 L1, CS T (bgnS s) S R1 L1 → Q (.inl none) (stS (bgnS s) S R1 L1)) : Tr tX6_beginTick 0 0 [.ref 0] (stS s S R L) Q := by
  obtain ⟨u, rs, lg⟩ := s
  have hm : rs.length ≤ 12 := hI.2.1
  have h19 : u 19 = 0 ∨ u 19 = 1 := hI.1.2.2.2.2.2.2.2.2.1
  have h1 : ¬ u 1 = 0 := toI_ne0 (by have : 3 ≤ (u 1).toInt := hI.1.2.1.1; omega)
  obtain ⟨hS, hR, w, t, hw, ht, hwt, htT, hL⟩ := id hC
  dsimp only at hS hR hw ht hwt hL
  have hS0 : S 0 = u 2 := hS 0 (by decide)
  refine Tr.of sX6_beginTick (by decide +kernel) (Nat.le_of_ble_eq_true rfl) fun X hX => ?_
  have hca : ∀ sw, CS T (aimU u sw, rs, lg) S R L := fun sw => hC.u (fun j hj => by
    show aimU u sw (2 + j) = _
    unfold aimU upd
    rw [if_neg (by omega), if_neg (by omega)]) rfl rfl
  -- the reading
  have rd : ∀ (sw goal : Int32) (x : Option Value), (bgnS (u, rs, lg) = readS (aimU u sw, rs, lg)) → X 159 [some (.ref 0), x, some (.int goal)] [] (stA 0 (aimU u sw) (nI rs.length) S R L) (0, 0) := by
    intro sw goal x he
    refine go hX (fun _ => none) 40 ?_
    refine c_read (u := aimU u sw) (rs := rs) (lg := lg) (w := w) rfl hm h1 hw (by omega) hR hL (fun R1 L1 hR1 hL1 => ?_)
    rw [he] at hQ
    refine hQ R1 L1 ⟨fun j hj => ?_, hR1, w + (rs.filter (hitS (aimU u sw))).length, t, ?_, ?_, ?_, htT, hL1⟩
    · rw [show (readS (aimU u sw, rs, lg)).1 (2 + j) = aimU u sw (2 + j) from rds_u _ (by omega) (by omega) _ _]
      exact (hca sw).1 j hj
    · rw [show (readS (aimU u sw, rs, lg)).1 8 = aimU u sw 8 + nI (rs.filter (hitS (aimU u sw))).length from rds_8 _ _ _, show aimU u sw 8 = nI w from hw, nI_add]
    · rw [show (readS (aimU u sw, rs, lg)).1 7 = aimU u sw 7 from rds_u _ (by decide) (by decide) _ _]
      exact ht
    · have := len_filter2 (hitS (aimU u sw)) rs
      show w + _ + (rs.filter (fun r => !hitS (aimU u sw) r)).length ≤ t
      omega
  -- what the arm does
  have fin : ∀ (sw goal : Int32) (o : Option Nat) (x : Option Value), aimS u rs = (o, sw) → goalS u rs o = goal → X 116 [some (.ref 0), x, some (.int goal)] [] (stA 0 (aimU u sw) (nI rs.length) S R L) (0, 0) := by
    intro sw goal o x ha hg
    have eb : bgnS (u, rs, lg) = (if u 17 = 0 then (if goal = u 16 then readS (aimU u sw, rs, lg) else if u 19 = 0 then (startU (aimU u sw) goal, rs, lg) else readS (aimU u sw, rs, lg)) else (moveU (aimU u sw) goal, rs, lg)) := by
      show bgnA (u, rs, lg) (aimS u rs) = _
      rw [ha, ← hg]
      rfl
    refine go hX (fun pc => if pc = 159 then some 3 else none) 60 ?_
    refine And.intro (fun h => ?_) (fun h => ?_)
    · rw [if_pos (show u 17 = 0 from h)] at eb
      refine And.intro (fun g => ?_) (fun g => And.intro (fun k => ?_) (fun k => ?_))
      · rw [if_pos (show goal = u 16 from g)] at eb
        exact rd sw goal x eb
      · rw [if_neg (show ¬ goal = u 16 from g), if_neg (show ¬ u 19 = 0 from k)] at eb
        exact rd sw goal x eb
      · rw [if_neg (show ¬ goal = u 16 from g), if_pos (show u 19 = 0 from k)] at eb
        refine c_start (u := aimU u sw) ?_
        rw [eb] at hQ
        refine hQ R L ((hca sw).u (fun j hj => ?_) rfl rfl)
        show startU (aimU u sw) goal (2 + j) = _
        unfold startU upd
        rw [if_neg (by omega), if_neg (by omega), if_neg (by omega), if_neg (by omega), if_neg (by omega)]
    · rw [if_neg (show ¬ u 17 = 0 from h)] at eb
      refine c_moveOn (u := aimU u sw) ?_
      rw [show S 1 = aimU u sw 3 from hS 1 (by decide)]
      rw [eb] at hQ
      refine hQ R L ((hca sw).u (fun j hj => ?_) ?_ ?_)
      · show moveU (aimU u sw) goal (2 + j) = _
        exact moveU_k (by omega) (by omega) (by omega) (by omega) (by omega)
      · exact moveU_k (by decide) (by decide) (by decide) (by decide) (by decide)
      · exact moveU_k (by decide) (by decide) (by decide) (by decide) (by decide)
  -- the goal
  have tail : ∀ (sw : Int32) (o : Option Nat) (x : Option Value), aimS u rs = (o, sw) → X 91 [some (.ref 0), some (.int (ix o)), x] [] (stA 0 (aimU u sw) (nI rs.length) S R L) (0, 0) := by
    intro sw o x ha
    refine go hX (fun pc => if pc = 116 then some 3 else none) 60 ?_
    cases o with
    | none =>
      refine And.intro (fun h => absurd rfl h) (fun _ => ?_)
      exact fin sw (u 16) none (some (.int (ix none))) ha rfl
    | some k =>
      have hk : k < rs.length := aim_lt (by rw [ha])
      have e1 : (ix (some k)).toNatClampNeg = k := nI_clamp (by omega)
      refine And.intro (fun _ => ⟨in_nI (by omega) (by decide), ?_⟩) (fun h => absurd h (ix_ne (by omega)))
      rw [e1]
      refine fin sw (R 1 k) (some k) (some (.int (ix (some k)))) ha ?_
      show (rs.getD k d0).2.1 = R 1 k
      rw [hR k rs[k] (List.getElem?_eq_getElem hk) 1 (by decide), List.getD_eq_getElem?_getD, List.getElem?_eq_getElem hk]
      rfl
  have hd : ∀ g : Int32, u 14 + u 19 = g → X 23 [some (.ref 0), none, none] [] (stA 0 (upd u 14 g) (nI rs.length) S R L) (0, 0) := by
    intro g hg
    refine go hX (fun pc => if pc = 91 then some 3 else none) 60 ?_
    refine ⟨in_lit (by decide), ?_⟩
    refine c_lowest (way := S 0) (sweep := u 20) (m := rs.length) (u := upd u 14 g) rfl hm ?_
    have e1 : pick (rkF (upd u 14 g) R (S 0) (u 20)) rs.length = lowS u rs (u 2) (u 20) := by rw [← rk_eq hR, hS0]; rfl
    rw [e1]
    cases hl : lowS u rs (u 2) (u 20) with
    | some k =>
      refine And.intro (fun _ => ?_) (fun h => absurd h (ix_ne (by have := pick_lt hl; omega)))
      have ha : aimS u rs = (some k, u 20) := by unfold aimS; rw [hl]
      have := tail (u 20) (some k) none ha
      subst hg
      exact this
    | none =>
      refine And.intro (fun h => absurd rfl h) (fun _ => And.intro (fun h => ?_) (fun h => ?_))
      · have h0 : rs.length = 0 := by
          rcases Nat.eq_zero_or_pos rs.length with h0 | h0
          · exact h0
          · exact absurd h (nI_nle h0 (by omega))
        have ha : aimS u rs = (none, u 20) := by unfold aimS; rw [hl]; exact if_pos h0
        have := tail (u 20) none none ha
        subst hg
        exact this
      · have h0 : ¬ rs.length = 0 := fun z => h (by rw [z]; decide)
        have ha : aimS u rs = (lowS u rs (u 2) (opp (u 20)), opp (u 20)) := by unfold aimS; rw [hl]; exact if_neg h0
        refine c_opposite ?_
        refine ⟨in_lit (by decide), ?_⟩
        refine c_lowest (way := S 0) (sweep := opp (u 20)) (m := rs.length) (u := upd (upd u 14 g) 20 (opp (u 20))) rfl hm ?_
        have e2 : pick (rkF (upd (upd u 14 g) 20 (opp (u 20))) R (S 0) (opp (u 20))) rs.length = lowS u rs (u 2) (opp (u 20)) := by rw [← rk_eq hR, hS0]; rfl
        rw [e2]
        have := tail (opp (u 20)) _ none ha
        subst hg
        exact this
  refine go hX (fun pc => if pc = 23 then some 3 else none) 60 ?_
  refine And.intro (fun h => ?_) (fun h => ?_)
  · exact hd (u 14) (by rw [show u 19 = 0 from h, Int32.add_zero])
  · exact hd (u 14 + 1) (by rw [h19.resolve_left h])

set_option maxRecDepth 20000 in
theorem c_end (hI : Inv T s) (hC : CS T s S R L) (hQ : ∀ R1, CS T (endS s) S R1 L → Q (.inl none) (stS (endS s) S R1 L)) : Tr tX6_endTick 0 0 [.ref 0] (stS s S R L) Q := by
  obtain ⟨u, rs, lg⟩ := s
  have hm : rs.length ≤ 12 := hI.2.1
  obtain ⟨hS, hR, w, t, hw, ht, hwt, htT, hL⟩ := id hC
  dsimp only at hS hR hw ht hwt hL
  refine Tr.of sX6_endTick (by decide +kernel) (Nat.le_of_ble_eq_true rfl) fun X hX => ?_
  have fin : ∀ (v : Nat → Int32) (rs1 : List Rq) (R1 : Nat → Nat → Int32), v 4 = u 4 → (∀ x y z : Int32, x = coolH (v 18) → y = coolR (v 4) x (v 19) → z = (if v 15 < x then x else v 15) → Q (.inl none) (stA 0 (upd (upd (upd (upd v 18 x) 19 y) 15 z) 6 (v 6 + 1)) (nI rs1.length) S R1 L)) → X 13 [some (.ref 0)] [] (stA 0 v (nI rs1.length) S R1 L) (0, 0) := by
    intro v rs1 R1 h4 hq
    refine go hX (fun _ => none) 40 ?_
    refine ⟨in_lit (by decide), ?_⟩
    refine Tr.at [2] (c_cool (lim := S 2) ?_) rfl rfl rfl
    rw [show S 2 = v 4 from (hS 2 (by decide)).trans h4.symm]
    have ew : ∀ x y z t : Int32, stA 0 (upd (upd (upd (upd v 18 x) 19 y) 15 z) 6 t) (nI rs1.length) S R1 L = [.inr (5, [.int (v 0), .int (v 1), .int t, .ref 1, .ref 2, .ref 3, .ref 9, .ref 11]), .inl (0, 4, .inl S), armO (v 16) (v 17) x y (v 20),
      .inr (4, [.int (nI rs1.length), .int (v 7), .ref 4, .ref 5, .ref 6, .ref 7, .ref 8]), .inl (0, 12, .inl (R1 0)), .inl (0, 12, .inl (R1 1)), .inl (0, 12, .inl (R1 2)), .inl (0, 12, .inl (R1 3)), .inl (0, 12, .inl (R1 4)),
      .inr (3, [.int (v 8), .ref 10]), .inl (0, 50, .inl L), taO (v 9) (v 10) (v 11) (v 12) (v 13) (v 14) z] := fun _ _ _ _ => rfl
    have := hq _ _ _ rfl rfl rfl
    rw [ew] at this
    generalize coolH (v 18) = x at this ⊢
    generalize coolR (v 4) x (v 19) = y at this ⊢
    exact this
  refine go hX (fun pc => if pc = 13 then some 1 else none) 40 ?_
  have e5 : S 3 = u 5 := hS 3 (by decide)
  refine ⟨in_lit (by decide), And.intro (fun h => ?_) (fun h => ?_)⟩
  · have h5 : u 5 = 0 := by rw [← e5]; exact h
    have ee : endS (u, rs, lg) = (lastU u, rs, lg) := if_pos h5
    rw [ee] at hQ
    refine fin u rs R rfl (fun x y z hx hy hz => ?_)
    have hq := hQ R (hC.u (fun j hj => last_k (by omega) (by omega) (by omega) (by omega)) (last_k (by decide) (by decide) (by decide) (by decide)) (last_k (by decide) (by decide) (by decide) (by decide)))
    unfold lastU at hq
    rw [← hx, ← hy, ← hz] at hq
    exact hq
  · have h5 : ¬ u 5 = 0 := by rw [← e5]; exact h
    have ee : endS (u, rs, lg) = (lastU (giveS (u, rs, lg)).1, (giveS (u, rs, lg)).2) := if_neg h5
    rw [ee] at hQ
    refine c_giveUp (u := u) (rs := rs) (lg := lg) rfl hm e5 hR (fun R1 hR1 => ?_)
    have hc2 : CS T (giveS (u, rs, lg)) S R1 L := ⟨fun j hj => by rw [hS j hj]; show u (2 + j) = upd u 10 _ (2 + j); unfold upd; rw [if_neg (by omega)], hR1, w, t, hw, ht, by have : (rs.filter (fun r => !goneS u r)).length ≤ rs.length := List.length_filter_le _ _; show w + (rs.filter (fun r => !goneS u r)).length ≤ t; omega, htT, hL⟩
    refine fin _ _ R1 rfl (fun x y z hx hy hz => ?_)
    have hq := hQ R1 (hc2.u (fun j hj => last_k (by omega) (by omega) (by omega) (by omega)) (last_k (by decide) (by decide) (by decide) (by decide)) (last_k (by decide) (by decide) (by decide) (by decide)))
    unfold lastU at hq
    rw [← hx, ← hy, ← hz] at hq
    exact hq
def passS : Nat → Sg → Sg
  | 0, s => s
  | k + 1, s => passS k (tickS s)
set_option maxRecDepth 20000 in
theorem c_passTicks {iv : Int32} {k : Nat} (hk : iv = nI k) (hk2 : k < 1000) (hI : Inv T s) (hT : T + 12 < 2 ^ 31) (hC : CS T s S R L) (hQ : ∀ R1 L1, CS T (passS k s) S R1 L1 → Q (.inl none) (stS (passS k s) S R1 L1)) : Tr tX6_passTicks 0 0 [.ref 0, .int iv] (stS s S R L) Q := by
  refine Tr.of sX6_passTicks (by decide +kernel) (Nat.le_of_ble_eq_true rfl) fun X hX => ?_
  have key : ∀ (d i : Nat) (jv : Int32) (s : Sg) (R : Nat → Nat → Int32) (L : Nat → Int32), i + d = k → jv = nI i → Inv T s → CS T s S R L → (∀ R1 L1, CS T (passS d s) S R1 L1 → Q (.inl none) (stS (passS d s) S R1 L1)) → X 2 [some (.ref 0), some (.int iv), some (.int jv)] [] (stS s S R L) (0, 0) := by
    intro d
    induction d with
    | zero =>
      intro i jv s R L hi hj hI hC hq
      refine go hX (fun _ => none) 40 ?_
      exact And.intro (fun _ => hq R L hC) (fun h => absurd (by rw [hk, hj, show i = k by omega]; exact Int32.le_refl _) h)
    | succ d ih =>
      intro i jv s R L hi hj hI hC hq
      refine go hX (fun pc => if pc = 2 then some 3 else none) 40 ?_
      refine And.intro (fun h => absurd h (by rw [hk, hj]; exact nI_ge (by omega) (by omega))) (fun _ => ?_)
      refine c_begin hI hT hC (fun R1 L1 hC1 => ?_)
      refine c_end (inv_bgn hI) hC1 (fun R2 hC2 => ?_)
      exact ih (i + 1) (jv + 1) (tickS s) R2 L1 (by omega) (by rw [hj]; exact nI_1 i) (inv_tick hI) hC2 hq
  refine go hX (fun pc => if pc = 2 then some 3 else none) 40 ?_
  exact key k 0 0 s R L (by omega) rfl hI hC hQ
/-- at most d ticks, until no request is left -/
def runS : Nat → Sg → Nat × Sg
  | 0, s => (0, s)
  | d + 1, s => if s.2.1.length = 0 then (0, s) else ((runS d (tickS s)).1 + 1, (runS d (tickS s)).2)
set_option maxRecDepth 20000 in
theorem c_passUntil (hI : Inv T s) (hT : T + 12 < 2 ^ 31) (hC : CS T s S R L) (hQ : ∀ R1 L1, CS T (runS 500 s).2 S R1 L1 → Q (.inl (some (.int (nI (runS 500 s).1)))) (stS (runS 500 s).2 S R1 L1)) : Tr tX6_passUntilEmpty 0 0 [.ref 0] (stS s S R L) Q := by
  refine Tr.of sX6_passUntilEmpty (by decide +kernel) (Nat.le_of_ble_eq_true rfl) fun X hX => ?_
  have key : ∀ (d i : Nat) (jv : Int32) (s : Sg) (R : Nat → Nat → Int32) (L : Nat → Int32), i + d = 500 → jv = nI i → Inv T s → CS T s S R L → (∀ R1 L1, CS T (runS d s).2 S R1 L1 → Q (.inl (some (.int (nI (i + (runS d s).1))))) (stS (runS d s).2 S R1 L1)) → X 2 [some (.ref 0), some (.int jv)] [] (stS s S R L) (0, 0) := by
    intro d
    induction d with
    | zero =>
      intro i jv s R L hi hj hI hC hq
      refine go hX (fun _ => none) 40 ?_
      refine And.intro (fun _ => ?_) (fun h => absurd (by rw [hj, show i = 500 by omega]; exact Int32.le_refl _) h)
      rw [hj]
      exact hq R L hC
    | succ d ih =>
      intro i jv s R L hi hj hI hC hq
      refine go hX (fun pc => if pc = 2 then some 2 else none) 40 ?_
      refine And.intro (fun h => absurd h (by rw [hj]; exact nI_ge (b := 500) (by omega) (by decide))) (fun _ => And.intro (fun h => ?_) (fun h => ?_))
      · have h0 : s.2.1.length = 0 := by
          rcases Nat.eq_zero_or_pos s.2.1.length with h0 | h0
          · exact h0
          · exact absurd h (nI_nle h0 (by have := hI.2.1; omega))
        have e : runS (d + 1) s = (0, s) := if_pos h0
        rw [e] at hq
        rw [hj]
        exact hq R L hC
      · have h0 : ¬ s.2.1.length = 0 := fun z => h (by rw [z]; decide)
        have e : runS (d + 1) s = ((runS d (tickS s)).1 + 1, (runS d (tickS s)).2) := if_neg h0
        rw [e] at hq
        refine c_begin hI hT hC (fun R1 L1 hC1 => ?_)
        refine c_end (inv_bgn hI) hC1 (fun R2 hC2 => ?_)
        refine ih (i + 1) (jv + 1) (tickS s) R2 L1 (by omega) (by rw [hj]; exact nI_1 i) (inv_tick hI) hC2 (fun R3 L3 hC3 => ?_)
        rw [show i + 1 + (runS d (tickS s)).1 = i + ((runS d (tickS s)).1 + 1) by omega]
        exact hq R3 L3 hC3
  refine go hX (fun pc => if pc = 2 then some 2 else none) 40 ?_
  refine key 500 0 0 s R L (by omega) rfl hI hC (fun R1 L1 h => ?_)
  rw [Nat.zero_add]
  exact hQ R1 L1 h

