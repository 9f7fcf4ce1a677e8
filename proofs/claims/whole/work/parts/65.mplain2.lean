/-! ===== the reference: whole, logged, widest ===== -/
variable {g P H X G f : Nat → Int32} {h : Int64} {Q : AQ} {T : Nat} {s : Sg}
def wholeV (s : Sg) (ty : Int32) (j : Nat) : Int32 := if j < 7 then s.1 j else if j = 7 then nI s.2.1.length else if j = 17 then ty else s.1 (j - 1)
set_option maxRecDepth 20000 in
theorem m_wholeOf {w : Int32} {j : Nat} (hR : RS g s) (hw : w = nI j) (hj : j ≤ 17) (hQ : Q (.inl (some (.int (wholeV s (f 2) j)))) (mdW g P H X G f h)) : Tr tX10_wholeOf 0 0 [.ref 0, .int w] (mdW g P H X G f h) Q := by
  refine Tr.run sX10_wholeOf (by decide +kernel) rfl 60 fun Y => ?_
  unfold wholeV at hQ
  refine And.intro (fun h2 => And.intro (fun h3 => And.intro (fun h4 => ?_) (fun h4 => ?_)) (fun h3 => ⟨in_lit (by decide), ?_⟩)) (fun h2 => ?_)
  · have j7 : ¬ j < 7 := fun z => absurd h2 (by rw [hw]; exact nI_ge (b := 7) z (by decide))
    have j77 : ¬ j = 7 := fun z => h3 (by rw [hw, z]; rfl)
    have j17 : ¬ j = 17 := fun z => h4 (by rw [hw, z]; rfl)
    have e : w - 1 = nI (j - 1) := by rw [hw]; exact sub_nI (a := j) (b := 1) (by omega)
    have e1 : (w - 1).toNatClampNeg = j - 1 := by rw [e]; exact nI_clamp (by omega)
    rw [if_neg j7, if_neg j77, if_neg j17, ← hR.1 (j - 1) (by omega), ← e1] at hQ
    exact ⟨by rw [e]; exact in_nI (by omega) (by decide), hQ⟩
  · have j17 : j = 17 := (nI_eq (b := 17) (by omega) (by decide)).mp (by rw [← hw]; exact h4)
    rw [if_neg (by omega), if_neg (by omega), if_pos j17] at hQ
    exact hQ
  · have j7 : j = 7 := (nI_eq (b := 7) (by omega) (by decide)).mp (by rw [← hw]; exact h3)
    rw [if_neg (by omega), if_pos j7, ← hR.2.1] at hQ
    exact hQ
  · have j7 : j < 7 := by
      rcases Nat.lt_or_ge j 7 with z | z
      · exact z
      · exact absurd (show nI 7 ≤ w by rw [hw]; exact nI_le z (by omega)) h2
    have e1 : w.toNatClampNeg = j := by rw [hw]; exact nI_clamp (by omega)
    rw [if_pos j7, ← hR.1 j (by omega), ← e1] at hQ
    exact ⟨by rw [hw]; exact in_nI (by omega) (by decide), hQ⟩
def wholeA (w ty : Int32) (s : Sg) : Int32 × Int32 := if inI w 0 17 = true then (0, wholeV s ty w.toNatClampNeg) else (1, 0)
set_option maxRecDepth 20000 in
theorem m_whole {w : Int32} (hR : RS g s) (hQ : Q (.inl (some (.int (wholeA w (f 2) s).2))) (mdW g P H X G (upd f 3 (wholeA w (f 2) s).1) h)) : Tr tX10_whole 0 0 [.ref 0, .int w] (mdW g P H X G f h) Q := by
  refine Tr.run sX10_whole (by decide +kernel) rfl 60 fun Y => ?_
  unfold wholeA at hQ
  refine m_in ?_
  cases hw : inI w 0 17 with
  | false =>
    rw [hw, if_neg (by decide)] at hQ
    refine And.intro (fun _ => ?_) (fun z => absurd rfl z)
    refine m_throws ?_
    exact And.intro (fun z => absurd z (by decide)) (fun _ => hQ)
  | true =>
    rw [hw, if_pos rfl] at hQ
    obtain ⟨a, b⟩ := inI_nat (c := 17) (by decide) hw
    refine And.intro (fun z => absurd z (by decide)) (fun _ => ?_)
    refine m_throws ?_
    refine And.intro (fun _ => ?_) (fun z => absurd rfl z)
    refine m_wholeOf (f := upd f 3 0) hR a b ?_
    exact hQ
def logV (s : Sg) (b : Int32) (j : Nat) : Int32 := if b < nI s.2.2.length then rf (s.2.2.getD b.toNatClampNeg d0) j else -1
set_option maxRecDepth 20000 in
theorem m_logOf {b w : Int32} {j : Nat} (hR : RS g s) (hl : s.2.2.length ≤ 10) (hb : 0 ≤ b.toInt) (hw : w = nI j) (hj : j ≤ 4) (hQ : Q (.inl (some (.int (logV s b j)))) (mdW g P H X G f h)) : Tr tX10_logOf 0 0 [.ref 0, .int b, .int w] (mdW g P H X G f h) Q := by
  refine Tr.run sX10_logOf (by decide +kernel) rfl 60 fun Y => ?_
  unfold logV at hQ
  refine ⟨in_lit (by decide), And.intro (fun h2 => ?_) (fun h2 => ?_)⟩
  · have h2' : nI s.2.2.length ≤ b := by rw [← hR.2.2.1]; exact h2
    rw [if_neg (Int32.not_lt.mpr h2')] at hQ
    exact hQ
  · have h2' : b < nI s.2.2.length := by rw [← hR.2.2.1]; exact Int32.not_le.mp h2
    rw [if_pos h2'] at hQ
    have hbc := of_clamp hb
    have hbl := Int32.lt_iff_toInt_lt.mp h2'
    rw [nI_toInt (by omega)] at hbl
    have hbn : b.toNatClampNeg = b.toInt.toNat := rfl
    generalize hk : b.toNatClampNeg = k at *
    have hkl : k < s.2.2.length := by omega
    have e : (83 : Int32) + 5 * b + w = nI (83 + 5 * k + j) := by rw [hbc, hw, show (5 : Int32) = nI 5 from rfl, show (83 : Int32) = nI 83 from rfl, mul_nI, nI_add, nI_add]
    have e1 : ((83 : Int32) + 5 * b + w).toNatClampNeg = 83 + 5 * k + j := by rw [e]; exact nI_clamp (by omega)
    have ev := hR.2.2.2.2 k _ (List.getElem?_eq_getElem hkl) j (by omega)
    rw [List.getD_eq_getElem?_getD, List.getElem?_eq_getElem hkl] at hQ
    rw [show (some s.2.2[k]).getD d0 = s.2.2[k] from rfl, ← ev, ← e1] at hQ
    exact ⟨by rw [e]; exact in_nI (by omega) (by decide), hQ⟩
def loggedA (b w : Int32) (s : Sg) : Int32 × Int32 := if b < 0 then (1, 0) else if inI w 0 4 = true then (0, logV s b w.toNatClampNeg) else (1, 0)
set_option maxRecDepth 20000 in
theorem m_logged {b w : Int32} (hR : RS g s) (hl : s.2.2.length ≤ 10) (hQ : Q (.inl (some (.int (loggedA b w s).2))) (mdW g P H X G (upd f 3 (loggedA b w s).1) h)) : Tr tX10_logged 0 0 [.ref 0, .int b, .int w] (mdW g P H X G f h) Q := by
  refine Tr.run sX10_logged (by decide +kernel) rfl 60 fun Y => ?_
  unfold loggedA at hQ
  refine And.intro (fun h1 => ?_) (fun h1 => ?_)
  · rw [if_pos h1] at hQ
    refine m_throws ?_
    exact And.intro (fun z => absurd z (by decide)) (fun _ => hQ)
  · rw [if_neg h1] at hQ
    refine m_in ?_
    cases hw : inI w 0 4 with
    | false =>
      rw [hw, if_neg (by decide)] at hQ
      refine And.intro (fun z => absurd rfl z) (fun _ => ?_)
      refine m_throws ?_
      exact And.intro (fun z => absurd z (by decide)) (fun _ => hQ)
    | true =>
      rw [hw, if_pos rfl] at hQ
      obtain ⟨a, c⟩ := inI_nat (c := 4) (by decide) hw
      refine And.intro (fun _ => ?_) (fun z => absurd z (by decide))
      refine m_throws ?_
      refine And.intro (fun _ => ?_) (fun z => absurd rfl z)
      refine m_logOf (f := upd f 3 0) hR hl (by have : ¬ b.toInt < 0 := fun z => h1 (lt0.mpr z)
                                                omega) a c ?_
      exact hQ
