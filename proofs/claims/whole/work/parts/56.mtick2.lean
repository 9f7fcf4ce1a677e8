/-! ===== the reference: a tick ===== -/
variable {g P H X G f : Nat → Int32} {h : Int64} {Q : AQ} {T : Nat} {s : Sg}
theorem RS.sc {g g1 u1 : Nat → Int32} {s : Sg} (h : RS g s) (h1 : ∀ k, k < 21 → g1 k = u1 k) (h2 : ∀ k, 21 ≤ k → g1 k = g k) : RS g1 (u1, s.2) := by
  obtain ⟨a, b, c, d, e⟩ := h
  exact ⟨h1, (h2 21 (by decide)).trans b, (h2 22 (by decide)).trans c, fun k r hr j hj => (h2 _ (by omega)).trans (d k r hr j hj), fun k r hr j hj => (h2 _ (by omega)).trans (e k r hr j hj)⟩
theorem upd_c {f g : Nat → Int32} {i k : Nat} {x y : Int32} (h : f k = g k) (hx : x = y) : upd f i x k = upd g i y k := by
  unfold upd
  rw [h, hx]
theorem upd_o {f : Nat → Int32} {i k : Nat} {x : Int32} (h : ¬ k = i) : upd f i x k = f k := if_neg h
theorem upd_i {f : Nat → Int32} {i : Nat} {x : Int32} : upd f i x i = x := if_pos rfl
def hitsS (s : Sg) : List Rq := if s.1 17 = 0 then (if goalS s.1 s.2.1 (aimS s.1 s.2.1).1 = s.1 16 then s.2.1.filter (hitS (aimU s.1 (aimS s.1 s.2.1).2)) else if s.1 19 = 0 then [] else s.2.1.filter (hitS (aimU s.1 (aimS s.1 s.2.1).2))) else []
theorem end_eq (s : Sg) : endS s = (lastU (if s.1 5 = 0 then s else giveS s).1, (if s.1 5 = 0 then s else giveS s).2) := by
  unfold endS
  split <;> rfl
theorem sub_0 {a b : Int32} : a - b = 0 ↔ a = b := by
  constructor
  · intro z
    have := congrArg (· + b) z
    simp only [Int32.sub_add_cancel, Int32.zero_add] at this
    exact this
  · intro z
    rw [z]
    exact Int32.sub_self _
set_option maxRecDepth 20000 in
theorem m_last {Y : WK} (hX : Clo kX10_ticks Q Y) {a b : Option Value} (hR : RS g s) (hQ : ∀ g1, RS g1 (lastU s.1, s.2) → Q (.inl none) (mdW g1 P H X G f h)) : Y 117 [some (.ref 0), a, b] [] (mdW g P H X G f h) (0, 0) := by
  obtain ⟨u, rl⟩ := s
  have r18 : g 18 = u 18 := hR.1 18 (by decide)
  have r19 : g 19 = u 19 := hR.1 19 (by decide)
  have r4 : g 4 = u 4 := hR.1 4 (by decide)
  have r15 : g 15 = u 15 := hR.1 15 (by decide)
  have r6 : g 6 = u 6 := hR.1 6 (by decide)
  have q4 : ∀ c r m : Int32, c = coolH (u 18) → r = coolR (u 4) c (u 19) → m = (if u 15 < c then c else u 15) → Y 239 [some (.ref 0), a, b] [] (mdW (upd (upd (upd g 18 c) 19 r) 15 m) P H X G f h) (0, 0) := by
    intro c r m hc hr hm
    refine go hX (fun _ => none) 40 ?_
    refine ⟨in_lit (by decide), in_lit (by decide), ?_⟩
    refine hQ (upd (upd (upd (upd g 18 c) 19 r) 15 m) 6 (g 6 + 1)) (hR.sc (fun k hk => ?_) (fun k hk => ?_))
    · show _ = lastU u k
      unfold lastU
      rw [← hc, ← hr, ← hm, ← r6]
      exact upd_c (upd_c (upd_c (upd_c (hR.1 k hk) rfl) rfl) rfl) rfl
    · rw [upd_o (by omega), upd_o (by omega), upd_o (by omega), upd_o (by omega)]
  have q3 : ∀ c r : Int32, c = coolH (u 18) → r = coolR (u 4) c (u 19) → Y 198 [some (.ref 0), a, b] [] (mdW (upd (upd g 18 c) 19 r) P H X G f h) (0, 0) := by
    intro c r hc hr
    refine go hX (fun pc => if pc = 239 then some 3 else none) 40 ?_
    refine ⟨in_lit (by decide), in_lit (by decide), And.intro (fun z => ⟨in_lit (by decide), in_lit (by decide), ?_⟩) (fun z => ⟨in_lit (by decide), in_lit (by decide), ?_⟩)⟩
    · exact q4 c r (g 15) hc hr (by rw [r15, if_neg (Int32.not_lt.mpr (by rw [← r15]; exact z))])
    · exact q4 c r c hc hr (by rw [if_pos (Int32.not_le.mp (by rw [← r15]; exact z))])
  have q2 : ∀ c : Int32, c = coolH (u 18) → Y 142 [some (.ref 0), a, b] [] (mdW (upd g 18 c) P H X G f h) (0, 0) := by
    intro c hc
    refine go hX (fun pc => if pc = 198 then some 3 else none) 60 ?_
    refine ⟨in_lit (by decide), in_lit (by decide), And.intro (fun z => ⟨in_lit (by decide), in_lit (by decide), by decide, And.intro (fun z2 => ⟨in_lit (by decide), in_lit (by decide), ?_⟩) (fun z2 => ⟨in_lit (by decide), ?_⟩)⟩) (fun z => ⟨in_lit (by decide), ?_⟩)⟩
    · refine q3 c (g 19) hc ?_
      unfold coolR
      rw [if_neg (Int32.not_le.mpr (show c < u 4 by rw [← r4]; exact z)), if_neg (Int32.not_le.mpr (show u 4 / 2 < c by rw [← r4]; exact z2)), r19]
    · refine q3 c 0 hc ?_
      unfold coolR
      rw [if_neg (Int32.not_le.mpr (show c < u 4 by rw [← r4]; exact z)), if_pos (Int32.not_lt.mp (show ¬ u 4 / 2 < c by rw [← r4]; exact z2))]
    · refine q3 c 1 hc ?_
      unfold coolR
      rw [if_pos (Int32.not_lt.mp (show ¬ c < u 4 by rw [← r4]; exact z))]
  refine go hX (fun pc => if pc = 142 then some 3 else none) 40 ?_
  refine ⟨in_lit (by decide), in_lit (by decide), And.intro (fun z => ⟨in_lit (by decide), ?_⟩) (fun z => ⟨in_lit (by decide), ?_⟩)⟩
  · refine q2 (g 18 - 0) ?_
    unfold coolH
    rw [Int32.sub_zero, r18, if_neg (Int32.not_lt.mpr (show u 18 ≤ 0 by rw [← r18]; exact z))]
  · refine q2 (g 18 - 1) ?_
    unfold coolH
    rw [r18, if_pos (Int32.not_le.mp (show ¬ u 18 ≤ 0 by rw [← r18]; exact z))]
set_option maxRecDepth 20000 in
theorem m_ticks (hR : RS g s) (hI : Inv T s) (hQ : ∀ g1, RS g1 (tickS s) → Q (.inl none) (mdW g1 P H X G (upd f 5 (raF (f 4) (s.1 6) (hitsS s) (f 5))) h)) : Tr tX10_ticks 0 0 [.ref 0] (mdW g P H X G f h) Q := by
  have hm : s.2.1.length ≤ 12 := hI.2.1
  have hl10 : s.2.2.length ≤ 10 := by obtain ⟨w, t, -, -, -, -, e⟩ := hI.2.2.2.2; omega
  have hb := inv_bgn hI
  have h1 : ¬ s.1 1 = 0 := toI_ne0 (by have : 3 ≤ (s.1 1).toInt := hI.1.2.1.1; omega)
  have h20 : s.1 20 = 1 ∨ s.1 20 = 2 := hI.1.2.2.2.2.2.2.2.2.2
  have g2 : g 2 = s.1 2 := hR.1 2 (by decide)
  have ea := aim_eq hR hI
  generalize hto : tgtS s.1 s.2.1 (s.1 2) = o at ea
  generalize hsw : swM g s.1 o = sw at ea
  have hol : ∀ k, o = some k → k < s.2.1.length := fun k hk => aim_lt (by rw [ea]; exact hk)
  have hbl : (bgnS s).2.2.length ≤ 10 := by obtain ⟨w, t, -, -, -, -, e⟩ := hb.2.2.2.2; omega
  refine Tr.of sX10_ticks (by decide +kernel) (Nat.le_of_ble_eq_true rfl) fun Y hX => ?_
  have p113 : ∀ (g3 : Nat → Int32) (x5 : Int32) (a b : Option Value), RS g3 (bgnS s) → raF (f 4) (s.1 6) (hitsS s) (f 5) = x5 → Y 113 [some (.ref 0), a, b] [] (mdW g3 P H X G (upd f 5 x5) h) (0, 0) := by
    intro g3 x5 a b hR3 hx5
    rw [hx5] at hQ
    refine go hX (fun pc => if pc = 117 then some 3 else none) 40 ?_
    refine m_givesUp hR3 hb.2.1 hbl hb.1.2.2.2.2.2.1.1 (fun g4 hR4 => ?_)
    refine m_last hX hR4 (fun g5 hR5 => ?_)
    rw [show tickS s = _ from end_eq (bgnS s)] at hQ
    exact hQ g5 hR5
  -- from the move on
  have p90 : ∀ (g2 : Nat → Int32), RS g2 (aimU s.1 sw, s.2) → Y 74 [some (.ref 0), some (.int (ix o)), none] [] (mdW g2 P H X G f h) (0, 0) := by
    intro g2 hR2
    have g17 : g2 17 = s.1 17 := hR2.1 17 (by decide)
    have g16 : g2 16 = s.1 16 := hR2.1 16 (by decide)
    have g19 : g2 19 = s.1 19 := hR2.1 19 (by decide)
    have g3' : g2 3 = s.1 3 := hR2.1 3 (by decide)
    have hby : byM g2 o = goalS s.1 s.2.1 o - s.1 16 := by
      cases ho : o with
      | none => show (0 : Int32) = s.1 16 - s.1 16; exact (Int32.sub_self _).symm
      | some k =>
        show trN g2 k - g2 16 = (s.2.1.getD k d0).2.1 - s.1 16
        rw [(hR2.row (hol k ho)).1, g16]
    have hgi := goal_in hI hol
    have h16i : 0 ≤ (s.1 16).toInt ∧ (s.1 16).toInt < 24 := hI.1.2.2.2.2.2.2.1
    have hdi : (goalS s.1 s.2.1 o - s.1 16).toInt = (goalS s.1 s.2.1 o).toInt - (s.1 16).toInt := sub_in (by omega) (by omega)
    have eb : bgnS s = bgnA s (o, sw) := congrArg (bgnA s) ea
    have eh : hitsS s = (if s.1 17 = 0 then (if goalS s.1 s.2.1 o = s.1 16 then s.2.1.filter (hitS (aimU s.1 sw)) else if s.1 19 = 0 then [] else s.2.1.filter (hitS (aimU s.1 sw))) else []) := by unfold hitsS; rw [ea]
    unfold bgnA at eb
    dsimp only at eb
    generalize hgo : goalS s.1 s.2.1 o = goal at *
    have p0 : (0 < byM g2 o) ↔ s.1 16 < goal := by
      rw [hby, Int32.lt_iff_toInt_lt, Int32.lt_iff_toInt_lt, hdi]
      show 0 < _ ↔ _
      omega
    have p1 : (byM g2 o < 0) ↔ goal < s.1 16 := by
      rw [hby, Int32.lt_iff_toInt_lt, Int32.lt_iff_toInt_lt, hdi]
      show _ < 0 ↔ _
      omega
    have p2 : byM g2 o = 0 ↔ goal = s.1 16 := by rw [hby]; exact sub_0
    have rdg : bgnS s = readS (aimU s.1 sw, s.2) → hitsS s = s.2.1.filter (hitS (aimU s.1 sw)) → ∀ a b, Y 109 [some (.ref 0), a, b] [] (mdW g2 P H X G f h) (0, 0) := by
      intro e1 e2 a b
      refine go hX (fun pc => if pc = 113 then some 3 else none) 40 ?_
      refine m_reads (u := aimU s.1 sw) (rs := s.2.1) (lg := s.2.2) hR2 hm hl10 h1 (fun g3 hR3 => ?_)
      exact p113 g3 _ _ _ (by rw [e1]; exact hR3) (by rw [e2]; rfl)
    refine go hX (fun pc => if pc = 109 then some 3 else if pc = 113 then some 3 else none) 60 ?_
    refine ⟨in_lit (by decide), And.intro (fun h17 => ?_) (fun h17 => ?_)⟩
    · -- moving
      have h17' : ¬ s.1 17 = 0 := fun z => h17 (g17.trans z)
      rw [if_neg h17'] at eb eh
      refine m_moves (fun k hk => by have := hol k hk; omega) ?_
      refine And.intro (fun _ => ?_) (fun z => absurd rfl z)
      refine p113 _ (f 5) _ _ ?_ (by rw [eh]; rfl)
      rw [eb]
      unfold moveM moveU
      rw [if_neg (show ¬ g2 17 = 0 from h17)]
      by_cases hf : (if s.1 17 = 1 then s.1 16 < goal else goal < s.1 16)
      · have hf1 : (if g2 17 = 1 then 0 < byM g2 o else byM g2 o < 0) := by
          rw [g17]
          by_cases hh : s.1 17 = 1
          · rw [if_pos hh] at hf ⊢
            exact p0.mpr hf
          · rw [if_neg hh] at hf ⊢
            exact p1.mpr hf
        rw [if_pos hf1, if_pos (show (if aimU s.1 sw 17 = 1 then aimU s.1 sw 16 < goal else goal < aimU s.1 sw 16) from hf)]
        refine hR2.sc (fun k hk => ?_) (fun k hk => ?_)
        · have e18 : g2 18 = aimU s.1 sw 18 := hR2.1 18 (by decide)
          have e11 : g2 11 = aimU s.1 sw 11 := hR2.1 11 (by decide)
          refine upd_c (upd_c (upd_c ?_ ?_) (by rw [e18])) (by rw [e11])
          · unfold upd
            by_cases hk17 : k = 17
            · rw [if_pos hk17, hk17]; exact hR2.1 17 (by decide)
            · rw [if_neg hk17]; exact hR2.1 k hk
          · rw [g16, g17]; rfl
        · rw [upd_o (by omega), upd_o (by omega), upd_o (by omega), upd_o (by omega)]
      · have hf1 : ¬ (if g2 17 = 1 then 0 < byM g2 o else byM g2 o < 0) := by
          rw [g17]
          by_cases hh : s.1 17 = 1
          · rw [if_pos hh] at hf ⊢
            exact fun y => hf (p0.mp y)
          · rw [if_neg hh] at hf ⊢
            exact fun y => hf (p1.mp y)
        rw [if_neg hf1, if_neg (show ¬ (if aimU s.1 sw 17 = 1 then aimU s.1 sw 16 < goal else goal < aimU s.1 sw 16) from hf)]
        refine hR2.sc (fun k hk => ?_) (fun k hk => ?_)
        · have e18 : g2 18 = aimU s.1 sw 18 := hR2.1 18 (by decide)
          have e13 : g2 13 = aimU s.1 sw 13 := hR2.1 13 (by decide)
          have e3 : g2 3 = aimU s.1 sw 3 := hR2.1 3 (by decide)
          exact upd_c (upd_c (upd_c (hR2.1 k hk) rfl) (by rw [e18, e3])) (by rw [e13])
        · rw [upd_o (by omega), upd_o (by omega), upd_o (by omega)]
    · -- at rest
      have h17' : s.1 17 = 0 := g17.symm.trans h17
      rw [if_pos h17'] at eb eh
      refine m_moves (fun k hk => by have := hol k hk; omega) ?_
      refine And.intro (fun z => absurd z (by decide)) (fun _ => ⟨in_lit (by decide), ?_⟩)
      by_cases hg : goal = s.1 16
      · rw [if_pos hg] at eb eh
        have em : moveM g2 (byM g2 o) = g2 := by unfold moveM; rw [if_pos (show g2 17 = 0 from h17), if_pos (p2.mpr hg)]
        rw [em]
        exact And.intro (fun z => absurd h17 z) (fun _ => rdg eb eh _ _)
      · rw [if_neg hg] at eb eh
        by_cases h19 : s.1 19 = 0
        · rw [if_pos h19] at eb eh
          have em : moveM g2 (byM g2 o) = upd (upd (upd (upd (upd g2 12 (g2 12 + 1)) 17 (if s.1 16 < goal then 1 else 2)) 16 (g2 16 + (if s.1 16 < goal then 1 else -1))) 18 (g2 18 + 2)) 11 (g2 11 + 1) := by
            unfold moveM
            rw [if_pos (show g2 17 = 0 from h17), if_neg (fun z => hg (p2.mp z)), if_pos (g19.trans h19)]
            by_cases hz : s.1 16 < goal
            · rw [if_pos hz, if_pos hz, if_pos (p0.mpr hz), if_pos (p0.mpr hz)]
            · rw [if_neg hz, if_neg hz, if_neg (fun z => hz (p0.mp z)), if_neg (fun z => hz (p0.mp z))]
          rw [em]
          have e17 : ¬ (if s.1 16 < goal then (1 : Int32) else 2) = 0 := by split <;> decide
          generalize hd17 : (if s.1 16 < goal then (1 : Int32) else 2) = d17 at e17
          generalize hd16 : (if s.1 16 < goal then (1 : Int32) else -1) = d16
          refine And.intro (fun _ => ?_) (fun z => absurd z e17)
          refine p113 _ (f 5) _ _ ?_ (by rw [eh]; rfl)
          rw [eb]
          refine hR2.sc (fun k hk => ?_) (fun k hk => ?_)
          · have e18 : g2 18 = aimU s.1 sw 18 := hR2.1 18 (by decide)
            have e11 : g2 11 = aimU s.1 sw 11 := hR2.1 11 (by decide)
            have e12 : g2 12 = aimU s.1 sw 12 := hR2.1 12 (by decide)
            have e16 : aimU s.1 sw 16 = s.1 16 := rfl
            show _ = startU (aimU s.1 sw) goal k
            unfold startU
            rw [e16, hd17, hd16]
            have hk0 := hR2.1 k hk
            dsimp only at hk0
            rw [← e18, ← e11, ← e12, ← g16]
            generalize aimU s.1 sw = v at hk0
            unfold upd
            by_cases k11 : k = 11
            · rw [if_pos k11, if_pos k11]
            · rw [if_neg k11, if_neg k11]
              by_cases k18 : k = 18
              · rw [if_pos k18, if_neg (by omega), if_pos k18]
              · rw [if_neg k18]
                by_cases k16 : k = 16
                · rw [if_pos k16, if_neg (by omega), if_neg k18, if_pos k16]
                · rw [if_neg k16]
                  by_cases k17 : k = 17
                  · rw [if_pos k17, if_neg (by omega), if_neg k18, if_neg k16, if_pos k17]
                  · rw [if_neg k17]
                    by_cases k12 : k = 12
                    · rw [if_pos k12, if_pos k12]
                    · rw [if_neg k12, if_neg k12, if_neg k18, if_neg k16, if_neg k17]
                      exact hk0
          · rw [upd_o (by omega), upd_o (by omega), upd_o (by omega), upd_o (by omega), upd_o (by omega)]
        · rw [if_neg h19] at eb eh
          have em : moveM g2 (byM g2 o) = g2 := by unfold moveM; rw [if_pos (show g2 17 = 0 from h17), if_neg (fun z => hg (p2.mp z)), if_neg (fun z => h19 (g19.symm.trans z))]
          rw [em]
          exact And.intro (fun z => absurd h17 z) (fun _ => rdg eb eh _ _)
  have p57 : ∀ g1 : Nat → Int32, (∀ k, ¬ k = 20 → g1 k = g k) → g1 20 = sw → Y 57 [some (.ref 0), some (.int (ix o)), none] [] (mdW g1 P H X G f h) (0, 0) := by
    intro g1 ha hb
    refine go hX (fun pc => if pc = 74 then some 3 else none) 40 ?_
    refine ⟨in_lit (by decide), in_lit (by decide), in_lit (by decide), ?_⟩
    refine p90 (upd g1 14 (g1 14 + g1 19)) (hR.sc (fun k hk => ?_) (fun k hk => ?_))
    · show _ = aimU s.1 sw k
      unfold aimU
      rw [ha 14 (by decide), ha 19 (by decide), hR.1 14 (by decide), hR.1 19 (by decide)]
      unfold upd
      by_cases k20 : k = 20
      · rw [if_pos k20, if_neg (by omega), k20, hb]
      · rw [if_neg k20]
        by_cases k14 : k = 14
        · rw [if_pos k14, if_pos k14]
        · rw [if_neg k14, if_neg k14, ha k k20]
          exact hR.1 k hk
    · rw [upd_o (by omega)]
      exact ha k (by omega)
  refine go hX (fun pc => if pc = 57 then some 3 else none) 60 ?_
  refine ⟨in_lit (by decide), ?_⟩
  refine m_targetBy (way := g 2) hR.2.1 hm ?_
  rw [g2, tgt_eq hR hI hI.1.2.2.1, hto]
  have g20 : g 20 = s.1 20 := hR.1 20 (by decide)
  refine ⟨in_lit (by decide), And.intro (fun z => ?_) (fun z => ?_)⟩
  · have z' : ¬ s.1 2 = 1 := fun y => z (g2.trans y)
    refine p57 g (fun _ _ => rfl) ?_
    rw [← hsw, g20]
    cases o with
    | none => rfl
    | some k => exact (if_neg z').symm
  · have z' : s.1 2 = 1 := g2.symm.trans z
    cases ho : o with
    | none =>
      rw [ho] at hsw p57
      exact And.intro (fun _ => p57 g (fun _ _ => rfl) (g20.trans hsw)) (fun y => absurd rfl y)
    | some k =>
      rw [ho] at hsw p57
      have hk := hol k ho
      refine And.intro (fun y => absurd y (ix_ne (by omega))) (fun _ => ⟨in_lit (by decide), ?_⟩)
      refine m_ahead (sw := g 20) (show ix (some k) = nI k from rfl) (by omega) ?_
      have hsw2 : sw = if aheadN g (s.1 20) k = true then s.1 20 else opp (s.1 20) := hsw.symm.trans (if_pos z')
      rw [g20]
      cases hz : aheadN g (s.1 20) k with
      | true =>
        rw [hz, if_pos rfl] at hsw2
        refine And.intro (fun _ => p57 g (fun _ _ => rfl) (g20.trans hsw2.symm)) (fun y => absurd y (by decide))
      | false =>
        rw [hz, if_neg (by decide)] at hsw2
        refine And.intro (fun y => absurd rfl y) (fun _ => ⟨in_lit (by decide), in_lit (by decide), ?_⟩)
        refine p57 (upd g 20 (3 - g 20)) (fun k hk => upd_o hk) ?_
        rw [upd_i, g20, opp_3 h20]
        exact hsw2.symm
