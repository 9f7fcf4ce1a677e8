/-! ===== the reference: set, request ===== -/
variable {g P H X G f : Nat → Int32} {h : Int64} {Q : AQ} {T : Nat}
def setFit (w v : Int32) : Bool := if w = 0 then inI v 0 3 else if w = 1 then inI v 0 20 else if w = 2 then inI v 5 200 else if w = 3 then inI v 0 100 else false
def setA (sv : Bool) (w v : Int32) (a : Kp) : Int32 × Int32 × Kp := if setFit w v = true then (0, a.1.1 (2 + w.toNatClampNeg), ((upd a.1.1 (2 + w.toNatClampNeg) v, a.1.2), keepK sv a)) else (1, 0, a)
theorem setFit_w {w v : Int32} (h : setFit w v = true) : ∃ j : Nat, j < 4 ∧ w = nI j ∧ w.toNatClampNeg = j := by
  unfold setFit at h
  by_cases h0 : w = 0
  · exact ⟨0, by decide, h0, by rw [h0]; rfl⟩
  · rw [if_neg h0] at h
    by_cases h1 : w = 1
    · exact ⟨1, by decide, h1, by rw [h1]; rfl⟩
    · rw [if_neg h1] at h
      by_cases h2 : w = 2
      · exact ⟨2, by decide, h2, by rw [h2]; rfl⟩
      · rw [if_neg h2] at h
        by_cases h3 : w = 3
        · exact ⟨3, by decide, h3, by rw [h3]; rfl⟩
        · rw [if_neg h3] at h
          cases h
set_option maxRecDepth 20000 in
theorem m_set {w v : Int32} {a : Kp} (hR : RS g a.1) (hI : Inv T a.1) (hK : KR P f a.2) (hQ : Kq Q X G f h (setA (decide (f 1 = 0)) w v a)) : Tr tX10_set 0 0 [.ref 0, .int w, .int v] (mdW g P H X G f h) Q := by
  refine Tr.of sX10_set (by decide +kernel) (Nat.le_of_ble_eq_true rfl) fun Y hX => ?_
  have tail : ∀ b : Bool, setFit w v = b → Y 64 [some (.ref 0), some (.int w), some (.int v), none, none] [.int (bI b)] (mdW g P H X G f h) (0, 0) := by
    intro b hb
    unfold setA at hQ
    refine go hX (fun _ => none) 60 ?_
    cases b with
    | false =>
      rw [hb, if_neg (by decide)] at hQ
      refine And.intro (fun _ => ?_) (fun z => absurd rfl z)
      refine m_throws ?_
      refine And.intro (fun z => absurd z (by decide)) (fun _ => ?_)
      exact hQ g P H (upd f 3 1) hR (hK.mv rfl) (fun k _ h3 _ => upd_o h3) upd_i
    | true =>
      rw [hb, if_pos rfl] at hQ
      obtain ⟨j, hj, hw, hwn⟩ := setFit_w hb
      rw [hwn] at hQ
      refine And.intro (fun z => absurd z (by decide)) (fun _ => ?_)
      refine m_throws ?_
      refine And.intro (fun _ => ?_) (fun z => absurd rfl z)
      have e2 : 2 + w = nI (2 + j) := by rw [hw, show (2 : Int32) = nI 2 from rfl, nI_add]
      have v0 : vp_in (2 + w) 133 := by rw [e2]; exact in_nI (by omega) (by decide)
      have v1 : (2 + w).toNatClampNeg = 2 + j := by rw [e2]; exact nI_clamp (by omega)
      refine m_savesK (f := upd f 3 0) (ps := a.2) (hK.mv rfl) hR hI.rb (fun P1 f1 hK1 hf1 => ⟨v0, v0, ?_⟩)
      have := hQ (upd g (2 + j) v) P1 H f1 (hR.sc (fun k hk => upd_c (hR.1 k hk) rfl) (fun k hk => upd_o (by omega))) hK1 (fun k h0 h3 h5 => (hf1 k h0).trans (upd_o h3)) ((hf1 3 (by decide)).trans upd_i)
      rw [← hR.1 (2 + j) (by omega), ← v1] at this
      exact this
  have tailz : ∀ b : Bool, setFit w v = b → Y 56 [some (.ref 0), some (.int w), some (.int v), none, none] [.int (bI b)] (mdW g P H X G f h) (0, 0) := by
    intro b hb
    refine go hX (fun pc => if pc = 64 then some 5 else none) 60 ?_
    cases b with
    | false => exact And.intro (fun _ => tail false hb) (fun z => absurd rfl z)
    | true => exact And.intro (fun z => absurd z (by decide)) (fun _ => tail true hb)
  refine go hX (fun pc => if pc = 64 then some 5 else if pc = 56 then some 5 else none) 60 ?_
  refine And.intro (fun h0 => And.intro (fun h1 => And.intro (fun h2 => And.intro (fun h3 => ?_) (fun h3 => ?_)) (fun h2 => ?_)) (fun h1 => ?_)) (fun h0 => ?_)
  · exact tail false (by unfold setFit; rw [if_neg h0, if_neg h1, if_neg h2, if_neg h3])
  · refine m_in ?_
    exact tailz _ (by unfold setFit; rw [if_neg h0, if_neg h1, if_neg h2, if_pos h3])
  · refine m_in ?_
    exact tail _ (by unfold setFit; rw [if_neg h0, if_neg h1, if_pos h2])
  · refine m_in ?_
    exact tail _ (by unfold setFit; rw [if_neg h0, if_pos h1])
  · refine m_in ?_
    exact tail _ (by unfold setFit; rw [if_pos h0])
def reqFit (u : Nat → Int32) (tr se de : Int32) : Bool := inI tr 0 (u 0 - 1) && (inI se 0 (u 1 - 1) && inI de 0 9999)
def addS (s : Sg) (tr se de : Int32) : Sg := (upd s.1 7 (s.1 7 + 1), s.2.1 ++ [(s.1 7, tr, se, de, s.1 6)], s.2.2)
def requestA (sv : Bool) (tr se de : Int32) (a : Kp) : Int32 × Int32 × Kp := if reqFit a.1.1 tr se de = true then (if a.1.2.1.length = 12 then (2, 0, a) else (0, a.1.1 7, (addS a.1 tr se de, keepK sv a))) else (1, 0, a)
set_option maxRecDepth 20000 in
theorem m_request {tr se de : Int32} {a : Kp} (hR : RS g a.1) (hI : Inv T a.1) (hK : KR P f a.2) (hQ : Kq Q X G f h (requestA (decide (f 1 = 0)) tr se de a)) : Tr tX10_request 0 0 [.ref 0, .int tr, .int se, .int de] (mdW g P H X G f h) Q := by
  refine Tr.of sX10_request (by decide +kernel) (Nat.le_of_ble_eq_true rfl) fun Y hX => ?_
  have hm := hI.2.1
  have hl := hI.rb.2
  have g0 : g 0 = a.1.1 0 := hR.1 0 (by decide)
  have g1' : g 1 = a.1.1 1 := hR.1 1 (by decide)
  have g7 : g 7 = a.1.1 7 := hR.1 7 (by decide)
  have g6 : g 6 = a.1.1 6 := hR.1 6 (by decide)
  have tail : ∀ (b : Bool) (x : Option Value), reqFit a.1.1 tr se de = b → Y 50 [some (.ref 0), some (.int tr), some (.int se), some (.int de), some (.int (bI b)), x] [] (mdW g P H X G f h) (0, 0) := by
    intro b x hb
    unfold requestA at hQ
    refine go hX (fun _ => none) 90 ?_
    cases b with
    | false =>
      rw [hb, if_neg (by decide)] at hQ
      refine And.intro (fun z => absurd rfl z) (fun _ => ?_)
      refine m_throws ?_
      refine And.intro (fun z => absurd z (by decide)) (fun _ => ?_)
      exact hQ g P H (upd f 3 1) hR (hK.mv rfl) (fun k _ h3 _ => upd_o h3) upd_i
    | true =>
      rw [hb, if_pos rfl] at hQ
      refine And.intro (fun _ => ⟨in_lit (by decide), And.intro (fun z => ?_) (fun z => ?_)⟩) (fun z => absurd z (by decide))
      · have h12 : ¬ a.1.2.1.length = 12 := fun y => z (show g 21 = 12 by rw [hR.2.1, y]; rfl)
        rw [if_neg h12] at hQ
        refine m_throws ?_
        refine And.intro (fun _ => ?_) (fun z => absurd rfl z)
        refine m_savesK (f := upd f 3 0) (ps := a.2) (hK.mv rfl) hR hI.rb (fun P1 f1 hK1 hf1 => ⟨in_lit (by decide), ?_⟩)
        generalize hn : a.1.2.1.length = n at *
        have e0 : (23 : Int32) + 5 * g 21 = nI (23 + 5 * n) := by rw [hR.2.1, hn, show (5 : Int32) = nI 5 from rfl, show (23 : Int32) = nI 23 from rfl, mul_nI, nI_add]
        have ej : ∀ (c : Int32) (j : Nat), c = nI j → j < 5 → vp_in ((23 : Int32) + 5 * g 21 + c) 133 ∧ ((23 : Int32) + 5 * g 21 + c).toNatClampNeg = 23 + 5 * n + j := by
          intro c j hc hj
          rw [e0, hc, nI_add]
          exact ⟨in_nI (by omega) (by decide), nI_clamp (by omega)⟩
        obtain ⟨w0, x0⟩ := ej 0 0 rfl (by decide)
        obtain ⟨w1, x1⟩ := ej 1 1 rfl (by decide)
        obtain ⟨w2, x2⟩ := ej 2 2 rfl (by decide)
        obtain ⟨w3, x3⟩ := ej 3 3 rfl (by decide)
        obtain ⟨w4, x4⟩ := ej 4 4 rfl (by decide)
        refine ⟨in_lit (by decide), w0, w1, w2, w3, in_lit (by decide), w4, in_lit (by decide), in_lit (by decide), in_lit (by decide), in_lit (by decide), in_lit (by decide), ?_⟩
        generalize hg5 : upd (upd (upd (upd (upd g (23 + 5 * n + 0) (g 7)) (23 + 5 * n + 1) tr) (23 + 5 * n + 2) se) (23 + 5 * n + 3) de) (23 + 5 * n + 4) (g 6) = g5
        have e5 : ∀ k, (k < 23 + 5 * n ∨ 23 + 5 * n + 5 ≤ k) → g5 k = g k := by
          intro k hk
          rw [← hg5, upd_o (by omega), upd_o (by omega), upd_o (by omega), upd_o (by omega), upd_o (by omega)]
        have e6 : ∀ j, j < 5 → g5 (23 + 5 * n + j) = rf (a.1.1 7, tr, se, de, a.1.1 6) j := by
          intro j hj
          rw [← hg5]
          match j, hj with
          | 0, _ => rw [upd_o (by omega), upd_o (by omega), upd_o (by omega), upd_o (by omega), upd_i]; exact g7
          | 1, _ => rw [upd_o (by omega), upd_o (by omega), upd_o (by omega), upd_i]; rfl
          | 2, _ => rw [upd_o (by omega), upd_o (by omega), upd_i]; rfl
          | 3, _ => rw [upd_o (by omega), upd_i]; rfl
          | 4, _ => rw [upd_i]; exact g6
        have q7 : g5 7 = g 7 := e5 7 (by omega)
        have q21 : g5 21 = g 21 := e5 21 (by omega)
        have q6 : upd (upd (upd (upd g (23 + 5 * n + 0) (g 7)) (23 + 5 * n + 1) tr) (23 + 5 * n + 2) se) (23 + 5 * n + 3) de 6 = g 6 := by rw [upd_o (by omega), upd_o (by omega), upd_o (by omega), upd_o (by omega)]
        have q77 : upd g5 21 (g5 21 + 1) 7 = g 7 := by rw [upd_o (by decide), q7]
        have fin := hQ (upd (upd g5 21 (g5 21 + 1)) 7 (upd g5 21 (g5 21 + 1) 7 + 1)) P1 H f1 ⟨fun k hk => ?_, ?_, ?_, fun k r hr j hj => ?_, fun b r hr j hj => ?_⟩ hK1 (fun k h0 h3 h5 => (hf1 k h0).trans (upd_o h3)) ((hf1 3 (by decide)).trans upd_i)
        · have e7 : upd (upd g5 21 (g5 21 + 1)) 7 (upd g5 21 (g5 21 + 1) 7 + 1) 7 - 1 = a.1.1 7 := by rw [upd_i, q77, g7]; exact Int32.add_sub_cancel _ _
          rw [← e7] at fin
          rw [← hg5, ← q6, ← x0, ← x1, ← x2, ← x3, ← x4] at fin
          exact fin
        · show upd (upd g5 21 (g5 21 + 1)) 7 (upd g5 21 (g5 21 + 1) 7 + 1) k = upd a.1.1 7 (a.1.1 7 + 1) k
          refine upd_c ?_ (by rw [q77, g7])
          rw [upd_o (by omega), e5 k (by omega)]
          exact hR.1 k hk
        · rw [upd_o (by decide), upd_i, q21, hR.2.1]
          show nI a.1.2.1.length + 1 = nI (a.1.2.1 ++ [_]).length
          rw [List.length_append]
          exact nI_1 _
        · rw [upd_o (by decide), upd_o (by decide), e5 22 (by omega)]
          exact hR.2.2.1
        · rw [upd_o (by omega), upd_o (by omega)]
          have hr' : (a.1.2.1 ++ [(a.1.1 7, tr, se, de, a.1.1 6)])[k]? = some r := hr
          by_cases hk : k < n
          · rw [List.getElem?_append_left (by omega)] at hr'
            rw [e5 _ (by omega)]
            exact hR.2.2.2.1 k r hr' j hj
          · rw [List.getElem?_append_right (by omega), hn] at hr'
            have hk0 : k - n = 0 := by
              have := (List.getElem?_eq_some_iff.mp hr').1
              rw [List.length_singleton] at this
              omega
            rw [hk0] at hr'
            cases hr'
            rw [show k = n by omega]
            exact e6 j hj
        · have hb' : b < a.1.2.2.length := (List.getElem?_eq_some_iff.mp hr).1
          rw [upd_o (by omega), upd_o (by omega), e5 _ (by omega)]
          exact hR.2.2.2.2 b r hr j hj
      · have h12 : a.1.2.1.length = 12 := by
          have z' : nI a.1.2.1.length = nI 12 := by rw [← hR.2.1]; exact z
          exact (nI_eq (by omega) (by decide)).mp z'
        rw [if_pos h12] at hQ
        refine m_throws ?_
        refine And.intro (fun z => absurd z (by decide)) (fun _ => ?_)
        exact hQ g P H (upd f 3 2) hR (hK.mv rfl) (fun k _ h3 _ => upd_o h3) upd_i
  refine go hX (fun pc => if pc = 50 then some 6 else none) 60 ?_
  refine ⟨in_lit (by decide), ?_⟩
  refine m_in (v := tr) (lo := 0) (hi := g 0 - 1) ?_
  cases b1 : inI tr 0 (g 0 - 1) with
  | false => exact And.intro (fun _ => tail false none (by unfold reqFit; rw [← g0, b1]; rfl)) (fun z => absurd rfl z)
  | true =>
    refine And.intro (fun z => absurd z (by decide)) (fun _ => ⟨in_lit (by decide), ?_⟩)
    refine m_in (v := se) (lo := 0) (hi := g 1 - 1) ?_
    cases b2 : inI se 0 (g 1 - 1) with
    | false => exact And.intro (fun _ => tail false none (by unfold reqFit; rw [← g0, ← g1', b1, b2]; rfl)) (fun z => absurd rfl z)
    | true =>
      refine And.intro (fun z => absurd z (by decide)) (fun _ => ?_)
      refine m_in ?_
      cases b3 : inI de 0 9999 with
      | false => exact And.intro (fun _ => tail false none (by unfold reqFit; rw [← g0, ← g1', b1, b2, b3]; rfl)) (fun z => absurd rfl z)
      | true => exact And.intro (fun z => absurd z (by decide)) (fun _ => tail true none (by unfold reqFit; rw [← g0, ← g1', b1, b2, b3]; rfl))
