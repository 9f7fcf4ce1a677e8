/-! ===== the reference: finish and the plain questions ===== -/
variable {g P H X G f : Nat → Int32} {h : Int64} {Q : AQ} {T : Nat}
def finishA (sv : Bool) (a : Kp) : Int32 × Int32 × Kp := if (runS 500 a.1).2.1 6 ≤ 9999 then (0, nI (runS 500 a.1).1, ((runS 500 a.1).2, keepK sv a)) else (1, 0, a)
theorem run_le : ∀ (d : Nat) (s : Sg), (runS d s).1 ≤ d
  | 0, _ => Nat.le_refl _
  | d + 1, s => by
    unfold runS
    split
    · exact Nat.zero_le _
    · exact Nat.succ_le_succ (run_le d _)
theorem run_0 {d : Nat} {s : Sg} (h : (runS d s).1 = 0) : (runS d s).2 = s := by
  cases d with
  | zero => rfl
  | succ d =>
    unfold runS at h ⊢
    split at h
    · rename_i h0
      rw [if_pos h0]
    · cases h
set_option maxRecDepth 20000 in
theorem m_finish {a : Kp} (hR : RS g a.1) (hI : Inv T a.1) (hK : KR P f a.2) (hQ : Kq Q X G f h (finishA (decide (f 1 = 0)) a)) : Tr tX10_finish 0 0 [.ref 0] (mdW g P H X G f h) Q := by
  refine Tr.run sX10_finish (by decide +kernel) rfl 60 fun Y => ?_
  refine m_holds (fun H1 hH1 => ?_)
  refine m_finishes hR hI (fun g1 x1 hR1 => ⟨in_lit (by decide), ?_⟩)
  refine m_lets (fun g2 hg2 => ?_)
  have hR2 : RS g2 a.1 := hR.cg hI.rb (fun k hk => (hg2 k hk).trans (hH1 k hk))
  have e6 : g1 6 = (runS 500 a.1).2.1 6 := hR1.1 6 (by decide)
  have hle := run_le 500 a.1
  unfold finishA at hQ
  refine And.intro (fun h1 => ?_) (fun h1 => ?_)
  · have h1' : (runS 500 a.1).2.1 6 ≤ 9999 := by rw [← e6]; exact h1
    rw [if_pos h1'] at hQ
    refine m_throws ?_
    refine And.intro (fun _ => ?_) (fun z => absurd rfl z)
    refine m_savesK (f := upd (upd f 5 x1) 3 0) (ps := a.2) (hK.mv rfl) hR2 hI.rb (fun P1 f1 hK1 hf1 => ?_)
    have hk1 : ∀ k, ¬ k = 0 → ¬ k = 3 → ¬ k = 5 → f1 k = f k := fun k h0 h3 h5 => (hf1 k h0).trans ((upd_o h3).trans (upd_o h5))
    have hk3 : f1 3 = 0 := (hf1 3 (by decide)).trans upd_i
    refine And.intro (fun hz => ?_) (fun hz => ?_)
    · refine m_finishes hR2 hI (fun g3 x3 hR3 => ?_)
      exact hQ g3 P1 H1 (upd f1 5 x3) hR3 (hK1.mv rfl) (fun k h0 h3 h5 => (upd_o h5).trans (hk1 k h0 h3 h5)) hk3
    · have hn0 : (runS 500 a.1).1 = 0 := by
        rcases Nat.eq_zero_or_pos (runS 500 a.1).1 with z | z
        · exact z
        · exact absurd hz (nI_ne0 z (by omega))
      have e2 := run_0 hn0
      have := hQ g2 P1 H1 f1 (by rw [e2]; exact hR2) hK1 hk1 hk3
      rw [hn0] at this
      exact this
  · have h1' : ¬ (runS 500 a.1).2.1 6 ≤ 9999 := by rw [← e6]; exact h1
    rw [if_neg h1'] at hQ
    refine m_throws ?_
    refine And.intro (fun z => absurd z (by decide)) (fun _ => ?_)
    exact hQ g2 P H1 (upd (upd f 5 x1) 3 1) hR2 (hK.mv rfl) (fun k _ h3 h5 => (upd_o h3).trans (upd_o h5)) upd_i
variable {s : Sg}
def toldV (u : Nat → Int32) (r : Rq) (j : Nat) : Int32 := if j < 4 then rf r (j + 1) else if j = 4 then sizeI (r.2.1 - u 16) else z01 (r.2.2.2.1 < u 6)
set_option maxRecDepth 20000 in
theorem m_told {kv wv : Int32} {k j : Nat} (hR : RS g s) (hm : s.2.1.length ≤ 12) (hk : kv = nI k) (hkn : k < s.2.1.length) (hw : wv = nI j) (hj : j < 6) (hQ : Q (.inl (some (.int (toldV s.1 (s.2.1.getD k d0) j)))) (mdW g P H X G f h)) : Tr tX10_told 0 0 [.ref 0, .int kv, .int wv] (mdW g P H X G f h) Q := by
  refine Tr.run sX10_told (by decide +kernel) rfl 60 fun Y => ?_
  have g16 : g 16 = s.1 16 := hR.1 16 (by decide)
  have g6 : g 6 = s.1 6 := hR.1 6 (by decide)
  obtain ⟨r1, r3, r0, r2, r4⟩ := hR.row hkn
  unfold toldV at hQ
  refine And.intro (fun h1 => And.intro (fun h2 => ?_) (fun h2 => ?_)) (fun h1 => ?_)
  · have j4 : ¬ j < 4 := fun z => absurd h1 (by rw [hw]; exact nI_ge (a := j) (b := 4) z (by decide))
    have j44 : ¬ j = 4 := fun z => h2 (by rw [hw, z]; rfl)
    rw [if_neg j4, if_neg j44] at hQ
    refine ⟨in_lit (by decide), ?_⟩
    refine m_of (v := (s.2.1.getD k d0).2.2.2.1) hk (show (3 : Int32) = nI 3 from rfl) (by omega) r3 ?_
    refine And.intro (fun h3 => ?_) (fun h3 => ?_)
    · rw [z01_f (Int32.not_lt.mpr (by rw [← g6]; exact h3))] at hQ; exact hQ
    · rw [z01_t (Int32.not_le.mp (by rw [← g6]; exact h3))] at hQ; exact hQ
  · have j44 : j = 4 := (nI_eq (b := 4) (by omega) (by decide)).mp (by rw [← hw]; exact h2)
    rw [if_neg (by omega), if_pos j44] at hQ
    refine m_far hk (by omega) ?_
    unfold farN
    rw [r1, g16]
    exact hQ
  · have j4 : j < 4 := by
      rcases Nat.lt_or_ge j 4 with z | z
      · exact z
      · exact absurd (show nI 4 ≤ wv by rw [hw]; exact nI_le z (by omega)) h1
    rw [if_pos j4] at hQ
    refine m_of (i := k) (j := j + 1) (v := rf (s.2.1.getD k d0) (j + 1)) hk (by rw [hw]; exact nI_1 j) (by omega) ?_ hQ
    have := hR.2.2.2.1 k _ (List.getElem?_eq_getElem hkn) (j + 1) (by omega)
    rw [this, List.getD_eq_getElem?_getD, List.getElem?_eq_getElem hkn]
    rfl
def requestOfA (x w : Int32) (s : Sg) : Int32 × Int32 := match fndL x s.2.1 with
  | none => (1, 0)
  | some k => if inI w 0 5 = true then (0, toldV s.1 (s.2.1.getD k d0) w.toNatClampNeg) else (2, 0)
set_option maxRecDepth 20000 in
theorem m_requestOf {x w : Int32} (hR : RS g s) (hI : Inv T s) (hQ : Q (.inl (some (.int (requestOfA x w s).2))) (mdW g P H X G (upd f 3 (requestOfA x w s).1) h)) : Tr tX10_requestOf 0 0 [.ref 0, .int x, .int w] (mdW g P H X G f h) Q := by
  refine Tr.run sX10_requestOf (by decide +kernel) rfl 60 fun Y => ?_
  have hm := hI.2.1
  refine m_placeOf hR.2.1 hm ?_
  rw [last_eq hR hI]
  unfold requestOfA at hQ
  cases hf : fndL x s.2.1 with
  | none =>
    rw [hf] at hQ
    refine And.intro (fun z => absurd rfl z) (fun _ => ?_)
    refine m_throws ?_
    exact And.intro (fun z => absurd z (by decide)) (fun _ => hQ)
  | some k =>
    rw [hf] at hQ
    have hk := fndL_lt hf
    refine And.intro (fun _ => ?_) (fun z => absurd z (ix_ne (by omega)))
    refine m_in ?_
    cases hw : inI w 0 5 with
    | false =>
      rw [hw] at hQ
      refine And.intro (fun _ => ?_) (fun z => absurd rfl z)
      refine m_throws ?_
      exact And.intro (fun z => absurd z (by decide)) (fun _ => hQ)
    | true =>
      rw [hw] at hQ
      refine And.intro (fun z => absurd z (by decide)) (fun _ => ?_)
      refine m_throws ?_
      have hw2 := inI_iff.mp hw
      have e0 : ((0 : Int32).toInt) = 0 := by decide
      have e5 : ((5 : Int32).toInt) = 5 := by decide
      have hwc := of_clamp (v := w) (by omega)
      have hwn : w.toNatClampNeg = w.toInt.toNat := rfl
      refine And.intro (fun _ => ?_) (fun z => absurd rfl z)
      refine m_told (f := upd f 3 0) hR hm (show ix (some k) = nI k from rfl) hk hwc (by omega) ?_
      exact hQ
def requestAtA (p : Int32) (s : Sg) : Int32 × Int32 := if p < 0 then (1, 0) else (0, if p < nI s.2.1.length then (s.2.1.getD p.toNatClampNeg d0).1 else -1)
set_option maxRecDepth 20000 in
theorem m_requestAt {p : Int32} (hR : RS g s) (hm : s.2.1.length ≤ 12) (hQ : Q (.inl (some (.int (requestAtA p s).2))) (mdW g P H X G (upd f 3 (requestAtA p s).1) h)) : Tr tX10_requestAt 0 0 [.ref 0, .int p] (mdW g P H X G f h) Q := by
  refine Tr.run sX10_requestAt (by decide +kernel) rfl 60 fun Y => ?_
  unfold requestAtA at hQ
  refine And.intro (fun h1 => ?_) (fun h1 => ?_)
  · rw [if_neg (Int32.not_lt.mpr h1)] at hQ
    refine m_throws ?_
    refine And.intro (fun _ => ⟨in_lit (by decide), And.intro (fun h2 => ?_) (fun h2 => ?_)⟩) (fun z => absurd rfl z)
    · have h2' : nI s.2.1.length ≤ p := by rw [← hR.2.1]; exact h2
      rw [if_neg (Int32.not_lt.mpr h2')] at hQ
      exact hQ
    · have h2' : p < nI s.2.1.length := by rw [← hR.2.1]; exact Int32.not_le.mp h2
      rw [if_pos h2'] at hQ
      have hp0 := le0.mp h1
      have hpc := of_clamp (v := p) hp0
      have hpl := Int32.lt_iff_toInt_lt.mp h2'
      rw [nI_toInt (by omega)] at hpl
      have hpn : p.toNatClampNeg = p.toInt.toNat := rfl
      refine m_of (f := upd f 3 0) (v := (s.2.1.getD p.toNatClampNeg d0).1) hpc (show (0 : Int32) = nI 0 from rfl) (by omega) (hR.row (by omega)).2.2.1 ?_
      exact hQ
  · rw [if_pos (Int32.not_le.mp h1)] at hQ
    refine m_throws ?_
    exact And.intro (fun z => absurd z (by decide)) (fun _ => hQ)
