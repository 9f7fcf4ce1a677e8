/-! ===== the reference: reason ===== -/
variable {g P H X G f : Nat → Int32} {h : Int64} {Q : AQ} {T : Nat} {s : Sg}
theorem tgtM_some {g : Nat → Int32} {n : Nat} {way : Int32} (hn : ¬ n = 0) (h20 : g 20 = 1 ∨ g 20 = 2) : ∃ k, tgtM g n way = some k := by
  unfold tgtM
  rw [if_neg hn]
  split
  · exact ⟨0, rfl⟩
  · split
    · unfold sweepM
      cases hp : pickM (mayN g (g 20)) (farN g) n with
      | some k => exact ⟨k, rfl⟩
      | none =>
        have n0 : ¬ g 20 = 0 := by rcases h20 with z | z <;> rw [z] <;> decide
        have n3 : ¬ 3 - g 20 = 0 := by rcases h20 with z | z <;> rw [z] <;> decide
        have a0 : aheadN g (g 20) 0 = false := by
          cases hz : aheadN g (g 20) 0 with
          | false => rfl
          | true =>
            obtain ⟨b, hb⟩ := pickM_some (f := farN g) (may := mayN g (g 20)) (k := 0) (m := n) (by omega) (by rw [show mayN g (g 20) 0 = aheadN g (g 20) 0 from if_neg n0]; exact hz)
            rw [hb] at hp
            cases hp
        refine pickM_some (k := 0) (by omega) ?_
        rw [show mayN g (3 - g 20) 0 = aheadN g (3 - g 20) 0 from if_neg n3]
        unfold aheadN at a0 ⊢
        rcases h20 with z2 | z2
        · rw [z2, if_pos rfl] at a0
          rw [z2, show (3 : Int32) - 1 = 2 from by decide, if_neg (by decide)]
          exact decide_eq_true (Int32.le_of_lt (Int32.not_le.mp (of_decide_eq_false a0)))
        · rw [z2, if_neg (by decide)] at a0
          rw [z2, show (3 : Int32) - 2 = 1 from by decide, if_pos rfl]
          exact decide_eq_true (Int32.le_of_lt (Int32.not_le.mp (of_decide_eq_false a0)))
    · split
      · exact pickM_some (k := 0) (by omega) rfl
      · exact pickM_some (k := 0) (by omega) rfl
def reasL (s : Sg) (k : Nat) : Int32 := if (s.2.1.getD k d0).2.2.1 = s.1 6 % s.1 1 then 0 else 4
def reasV (s : Sg) (k : Nat) : Int32 :=
  if s.1 17 = 0 then
    if (s.2.1.getD k d0).2.1 = s.1 16 then
      if s.1 19 = 0 then (match tgtS s.1 s.2.1 (s.1 2) with
        | none => reasL s k
        | some t => if (s.2.1.getD t d0).2.1 = s.1 16 then reasL s k else 3)
      else reasL s k
    else 2
  else 1
def reasonA (x : Int32) (s : Sg) : Int32 × Int32 := match fndL x s.2.1 with
  | none => (1, 0)
  | some k => (0, reasV s k)
set_option maxRecDepth 20000 in
theorem m_reason {x : Int32} (hR : RS g s) (hI : Inv T s) (hQ : Q (.inl (some (.int (reasonA x s).2))) (mdW g P H X G (upd f 3 (reasonA x s).1) h)) : Tr tX10_reason 0 0 [.ref 0, .int x] (mdW g P H X G f h) Q := by
  refine Tr.of sX10_reason (by decide +kernel) (Nat.le_of_ble_eq_true rfl) fun Y hX => ?_
  have hm := hI.2.1
  have h1 : ¬ s.1 1 = 0 := toI_ne0 (by have : 3 ≤ (s.1 1).toInt := hI.1.2.1.1; omega)
  have g1 : g 1 = s.1 1 := hR.1 1 (by decide)
  have g2 : g 2 = s.1 2 := hR.1 2 (by decide)
  have g6 : g 6 = s.1 6 := hR.1 6 (by decide)
  have g16 : g 16 = s.1 16 := hR.1 16 (by decide)
  have g17 : g 17 = s.1 17 := hR.1 17 (by decide)
  have g19 : g 19 = s.1 19 := hR.1 19 (by decide)
  have g20 : g 20 = s.1 20 := hR.1 20 (by decide)
  unfold reasonA at hQ
  cases hf : fndL x s.2.1 with
  | none =>
    rw [hf] at hQ
    refine go hX (fun _ => none) 60 ?_
    refine m_placeOf hR.2.1 hm ?_
    rw [last_eq hR hI, hf]
    refine And.intro (fun z => absurd rfl z) (fun _ => ?_)
    refine m_throws ?_
    exact And.intro (fun z => absurd z (by decide)) (fun _ => hQ)
  | some k =>
    rw [hf] at hQ
    have hk := fndL_lt hf
    obtain ⟨r1, r3, r0, r2, r4⟩ := hR.row hk
    have last : reasV s k = reasL s k → Y 92 [some (.ref 0), some (.int x), some (.int (ix (some k)))] [] (mdW g P H X G (upd f 3 0) h) (0, 0) := by
      intro he
      rw [show ((0 : Int32), reasV s k).2 = reasL s k from he] at hQ
      unfold reasL at hQ
      refine go hX (fun _ => none) 60 ?_
      refine m_of (f := upd f 3 0) (v := (s.2.1.getD k d0).2.2.1) (show ix (some k) = nI k from rfl) (show (2 : Int32) = nI 2 from rfl) (by omega) r2 ?_
      refine ⟨in_lit (by decide), in_lit (by decide), fun z => h1 (g1.symm.trans z), And.intro (fun z => ?_) (fun z => ?_)⟩
      · rw [if_neg (fun y => z (y.trans (by rw [← g6, ← g1]; rfl)))] at hQ
        exact hQ
      · rw [if_pos (show (s.2.1.getD k d0).2.2.1 = s.1 6 % s.1 1 by rw [← g6, ← g1]; exact z)] at hQ
        exact hQ
    refine go hX (fun pc => if pc = 92 then some 3 else none) 60 ?_
    refine m_placeOf hR.2.1 hm ?_
    rw [last_eq hR hI, hf]
    refine And.intro (fun _ => ?_) (fun z => absurd z (ix_ne (by omega)))
    refine m_throws ?_
    refine And.intro (fun _ => ⟨in_lit (by decide), And.intro (fun z17 => ?_) (fun z17 => ?_)⟩) (fun z => absurd rfl z)
    · have e17 : s.1 17 = 0 := g17.symm.trans z17
      refine m_of (f := upd f 3 0) (v := (s.2.1.getD k d0).2.1) (show ix (some k) = nI k from rfl) (show (1 : Int32) = nI 1 from rfl) (by omega) r1 ?_
      refine ⟨in_lit (by decide), And.intro (fun z => ?_) (fun z => ?_)⟩
      · have e16 : (s.2.1.getD k d0).2.1 = s.1 16 := by rw [← g16]; exact z
        refine ⟨in_lit (by decide), And.intro (fun z19 => ?_) (fun z19 => ⟨in_lit (by decide), ?_⟩)⟩
        · have e19 : ¬ s.1 19 = 0 := fun y => z19 (g19.trans y)
          exact last (by unfold reasV; rw [if_pos e17, if_pos e16, if_neg e19])
        · have e19 : s.1 19 = 0 := g19.symm.trans z19
          refine m_targetBy (f := upd f 3 0) (way := g 2) hR.2.1 hm ?_
          obtain ⟨t, ht⟩ := tgtM_some (g := g) (n := s.2.1.length) (way := g 2) (by omega) (by rw [g20]; exact hI.1.2.2.2.2.2.2.2.2.2)
          have htl := tgtM_lt ht
          have hts : tgtS s.1 s.2.1 (s.1 2) = some t := by rw [← tgt_eq hR hI hI.1.2.2.1, ← g2]; exact ht
          rw [ht]
          refine m_of (f := upd f 3 0) (v := (s.2.1.getD t d0).2.1) (show ix (some t) = nI t from rfl) (show (1 : Int32) = nI 1 from rfl) (by omega) (hR.row htl).1 ?_
          refine ⟨in_lit (by decide), And.intro (fun y => ?_) (fun y => ?_)⟩
          · have y' : (s.2.1.getD t d0).2.1 = s.1 16 := by rw [← g16]; exact y
            exact last (by unfold reasV; rw [if_pos e17, if_pos e16, if_pos e19, hts]; exact if_pos y')
          · have y' : ¬ (s.2.1.getD t d0).2.1 = s.1 16 := by rw [← g16]; exact y
            have he : reasV s k = 3 := by unfold reasV; rw [if_pos e17, if_pos e16, if_pos e19, hts]; exact if_neg y'
            rw [show ((0 : Int32), reasV s k).2 = 3 from he] at hQ
            exact hQ
      · have e16 : ¬ (s.2.1.getD k d0).2.1 = s.1 16 := by rw [← g16]; exact z
        have he : reasV s k = 2 := by unfold reasV; rw [if_pos e17, if_neg e16]
        rw [show ((0 : Int32), reasV s k).2 = 2 from he] at hQ
        exact hQ
    · have e17 : ¬ s.1 17 = 0 := fun y => z17 (g17.trans y)
      have he : reasV s k = 1 := by unfold reasV; rw [if_neg e17]
      rw [show ((0 : Int32), reasV s k).2 = 1 from he] at hQ
      exact hQ
