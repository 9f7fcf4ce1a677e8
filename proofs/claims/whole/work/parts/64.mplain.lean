/-! ===== the reference: log, arm, whole, target, finishBy, bestWay, heatIn ===== -/
variable {g P H X G f : Nat → Int32} {h : Int64} {Q : AQ} {T : Nat} {s : Sg}
def armV (u : Nat → Int32) (j : Nat) : Int32 := if j < 5 then u (16 + j) else u 6 % u 1
def armA (w : Int32) (s : Sg) : Int32 × Int32 := if inI w 0 5 = true then (0, armV s.1 w.toNatClampNeg) else (1, 0)
theorem inI_nat {w : Int32} {c : Nat} {hi : Int32} (hh : hi.toInt = c) (h : inI w 0 hi = true) : w = nI w.toNatClampNeg ∧ w.toNatClampNeg ≤ c := by
  have h2 := inI_iff.mp h
  have e0 : ((0 : Int32).toInt) = 0 := by decide
  have hwn : w.toNatClampNeg = w.toInt.toNat := rfl
  exact ⟨of_clamp (by omega), by omega⟩
set_option maxRecDepth 20000 in
theorem m_armOf {w : Int32} {j : Nat} (hR : RS g s) (hI : Inv T s) (hw : w = nI j) (hj : j ≤ 5) (hQ : Q (.inl (some (.int (armV s.1 j)))) (mdW g P H X G f h)) : Tr tX10_armOf 0 0 [.ref 0, .int w] (mdW g P H X G f h) Q := by
  have h1 : ¬ s.1 1 = 0 := toI_ne0 (by have : 3 ≤ (s.1 1).toInt := hI.1.2.1.1; omega)
  refine Tr.run sX10_armOf (by decide +kernel) rfl 60 fun Y => ?_
  unfold armV at hQ
  refine And.intro (fun h2 => ⟨in_lit (by decide), in_lit (by decide), fun z => h1 ((hR.1 1 (by decide)).symm.trans z), ?_⟩) (fun h2 => ?_)
  · have j5 : ¬ j < 5 := fun z => absurd h2 (by rw [hw]; exact nI_ge (b := 5) z (by decide))
    rw [if_neg j5, ← hR.1 6 (by decide), ← hR.1 1 (by decide)] at hQ
    exact hQ
  · have j5 : j < 5 := by
      rcases Nat.lt_or_ge j 5 with z | z
      · exact z
      · exact absurd (show nI 5 ≤ w by rw [hw]; exact nI_le z (by omega)) h2
    have e : (16 : Int32) + w = nI (16 + j) := by rw [hw, show (16 : Int32) = nI 16 from rfl, nI_add]
    have e1 : ((16 : Int32) + w).toNatClampNeg = 16 + j := by rw [e]; exact nI_clamp (by omega)
    rw [if_pos j5, ← hR.1 (16 + j) (by omega), ← e1] at hQ
    exact ⟨by rw [e]; exact in_nI (by omega) (by decide), hQ⟩
set_option maxRecDepth 20000 in
theorem m_arm {w : Int32} (hR : RS g s) (hI : Inv T s) (hQ : Q (.inl (some (.int (armA w s).2))) (mdW g P H X G (upd f 3 (armA w s).1) h)) : Tr tX10_arm 0 0 [.ref 0, .int w] (mdW g P H X G f h) Q := by
  refine Tr.run sX10_arm (by decide +kernel) rfl 60 fun Y => ?_
  unfold armA at hQ
  refine m_in ?_
  cases hw : inI w 0 5 with
  | false =>
    rw [hw, if_neg (by decide)] at hQ
    refine And.intro (fun _ => ?_) (fun z => absurd rfl z)
    refine m_throws ?_
    exact And.intro (fun z => absurd z (by decide)) (fun _ => hQ)
  | true =>
    rw [hw, if_pos rfl] at hQ
    obtain ⟨a, b⟩ := inI_nat (c := 5) (by decide) hw
    refine And.intro (fun z => absurd z (by decide)) (fun _ => ?_)
    refine m_throws ?_
    refine And.intro (fun _ => ?_) (fun z => absurd rfl z)
    refine m_armOf (f := upd f 3 0) hR hI a b ?_
    exact hQ
def numS (rs : List Rq) : Option Nat → Int32
  | none => -1
  | some k => (rs.getD k d0).1
set_option maxRecDepth 20000 in
theorem m_numberOf {o : Option Nat} (hR : RS g s) (hm : s.2.1.length ≤ 12) (ho : ∀ k, o = some k → k < s.2.1.length) (hQ : Q (.inl (some (.int (numS s.2.1 o)))) (mdW g P H X G f h)) : Tr tX10_numberOf 0 0 [.ref 0, .int (ix o)] (mdW g P H X G f h) Q := by
  refine Tr.run sX10_numberOf (by decide +kernel) rfl 60 fun Y => ?_
  cases o with
  | none => exact And.intro (fun z => absurd rfl z) (fun _ => hQ)
  | some k =>
    have hk := ho k rfl
    refine And.intro (fun _ => ?_) (fun z => absurd z (ix_ne (by omega)))
    exact m_of (v := (s.2.1.getD k d0).1) (show ix (some k) = nI k from rfl) (show (0 : Int32) = nI 0 from rfl) (by omega) (hR.row hk).2.2.1 hQ
def targetA (w : Int32) (s : Sg) : Int32 × Int32 := if inI w 0 3 = true then (0, numS s.2.1 (tgtS s.1 s.2.1 w)) else (1, 0)
theorem way_03 {w : Int32} (h : inI w 0 3 = true) : 0 ≤ w.toInt ∧ w.toInt ≤ 3 := by
  have h2 := inI_iff.mp h
  have e0 : ((0 : Int32).toInt) = 0 := by decide
  have e3 : ((3 : Int32).toInt) = 3 := by decide
  omega
set_option maxRecDepth 20000 in
theorem m_target {w : Int32} (hR : RS g s) (hI : Inv T s) (hQ : Q (.inl (some (.int (targetA w s).2))) (mdW g P H X G (upd f 3 (targetA w s).1) h)) : Tr tX10_target 0 0 [.ref 0, .int w] (mdW g P H X G f h) Q := by
  refine Tr.run sX10_target (by decide +kernel) rfl 60 fun Y => ?_
  unfold targetA at hQ
  refine m_in ?_
  cases hw : inI w 0 3 with
  | false =>
    rw [hw, if_neg (by decide)] at hQ
    refine And.intro (fun _ => ?_) (fun z => absurd rfl z)
    refine m_throws ?_
    exact And.intro (fun z => absurd z (by decide)) (fun _ => hQ)
  | true =>
    rw [hw, if_pos rfl] at hQ
    refine And.intro (fun z => absurd z (by decide)) (fun _ => ?_)
    refine m_throws ?_
    refine And.intro (fun _ => ?_) (fun z => absurd rfl z)
    refine m_targetBy (f := upd f 3 0) (way := w) hR.2.1 hI.2.1 ?_
    have hlt : ∀ k, tgtM g s.2.1.length w = some k → k < s.2.1.length := fun k hk => tgtM_lt hk
    rw [tgt_eq hR hI (way_03 hw)] at hlt ⊢
    refine m_numberOf (f := upd f 3 0) hR hI.2.1 hlt ?_
    exact hQ
def heatInA (t : Int32) (s : Sg) : Int32 × Int32 := if inI t 0 99 = true then (0, heatV s t.toNatClampNeg) else (1, 0)
def Vq (Q : AQ) (P X G f : Nat → Int32) (h : Int64) (s : Sg) (r : Int32 × Int32) : Prop := ∀ g1 H1 f1 : Nat → Int32, RS g1 s → (∀ k, ¬ k = 3 → ¬ k = 5 → f1 k = f k) → f1 3 = r.1 → Q (.inl (some (.int r.2))) (mdW g1 P H1 X G f1 h)
set_option maxRecDepth 20000 in
theorem m_heatIn {t : Int32} (hR : RS g s) (hI : Inv T s) (hQ : Vq Q P X G f h s (heatInA t s)) : Tr tX10_heatIn 0 0 [.ref 0, .int t] (mdW g P H X G f h) Q := by
  refine Tr.run sX10_heatIn (by decide +kernel) rfl 60 fun Y => ?_
  unfold heatInA at hQ
  refine m_in ?_
  cases hw : inI t 0 99 with
  | false =>
    rw [hw, if_neg (by decide)] at hQ
    refine And.intro (fun _ => ?_) (fun z => absurd rfl z)
    refine m_throws ?_
    exact And.intro (fun z => absurd z (by decide)) (fun _ => hQ g H (upd f 3 1) hR (fun k k3 _ => upd_o k3) rfl)
  | true =>
    rw [hw, if_pos rfl] at hQ
    obtain ⟨a, b⟩ := inI_nat (c := 99) (by decide) hw
    refine And.intro (fun z => absurd z (by decide)) (fun _ => ?_)
    refine m_throws ?_
    refine And.intro (fun _ => ?_) (fun z => absurd rfl z)
    refine m_heat (f := upd f 3 0) hR hI a (by omega) (fun g1 H1 f1 hR1 hf1 => ?_)
    exact hQ g1 H1 f1 hR1 (fun k k3 k5 => (hf1 k k5).trans (upd_o k3)) ((hf1 3 (by decide)).trans upd_i)
def finishByA (w j : Int32) (s : Sg) : Int32 × Int32 := if (inI w 0 3 && inI j 0 4) = true then (0, valV s w j.toNatClampNeg) else (1, 0)
set_option maxRecDepth 20000 in
theorem m_finishBy {w j : Int32} (hR : RS g s) (hI : Inv T s) (hQ : Vq Q P X G f h s (finishByA w j s)) : Tr tX10_finishBy 0 0 [.ref 0, .int w, .int j] (mdW g P H X G f h) Q := by
  refine Tr.run sX10_finishBy (by decide +kernel) rfl 60 fun Y => ?_
  unfold finishByA at hQ
  refine m_in ?_
  cases hw : inI w 0 3 with
  | false =>
    rw [hw] at hQ
    refine And.intro (fun _ => ?_) (fun z => absurd rfl z)
    refine m_throws ?_
    exact And.intro (fun z => absurd z (by decide)) (fun _ => hQ g H (upd f 3 1) hR (fun k k3 _ => upd_o k3) rfl)
  | true =>
    rw [hw] at hQ
    refine And.intro (fun z => absurd z (by decide)) (fun _ => ?_)
    refine m_in ?_
    cases hj : inI j 0 4 with
    | false =>
      rw [hj] at hQ
      refine And.intro (fun z => absurd rfl z) (fun _ => ?_)
      refine m_throws ?_
      exact And.intro (fun z => absurd z (by decide)) (fun _ => hQ g H (upd f 3 1) hR (fun k k3 _ => upd_o k3) rfl)
    | true =>
      rw [hj] at hQ
      obtain ⟨a, b⟩ := inI_nat (c := 4) (by decide) hj
      refine And.intro (fun _ => ?_) (fun z => absurd z (by decide))
      refine m_throws ?_
      refine And.intro (fun _ => ?_) (fun z => absurd rfl z)
      refine m_valueBy (f := upd f 3 0) hR hI (way_03 hw) a (by omega) (fun g1 H1 f1 hR1 hf1 => ?_)
      exact hQ g1 H1 f1 hR1 (fun k k3 k5 => (hf1 k k5).trans (upd_o k3)) ((hf1 3 (by decide)).trans upd_i)
set_option maxRecDepth 20000 in
theorem m_bestWay (hR : RS g s) (hI : Inv T s) (hQ : Vq Q P X G f h s (0, nI (bestM s 4))) : Tr tX10_bestWay 0 0 [.ref 0] (mdW g P H X G f h) Q := by
  refine Tr.run sX10_bestWay (by decide +kernel) rfl 60 fun Y => ?_
  refine m_best (f := upd f 3 0) hR hI (fun g1 H1 f1 hR1 hf1 => ?_)
  exact hQ g1 H1 f1 hR1 (fun k k3 k5 => (hf1 k k5).trans (upd_o k3)) ((hf1 3 (by decide)).trans upd_i)
