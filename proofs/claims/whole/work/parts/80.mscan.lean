/-! ===== the reference: reading commands ===== -/
variable {g P H X G f : Nat → Int32} {h : Int64} {Q : AQ} {n p : Nat}
theorem upd_upd {f : Nat → Int32} {i : Nat} {x y : Int32} : upd (upd f i x) i y = upd f i y := by
  funext k
  unfold upd
  split <;> rfl
set_option maxRecDepth 20000 in
theorem m_isAt {lo hi : Int32} (h6 : f 6 = nI p) (h2 : f 2 = nI n) (hn : n ≤ 150) (hp : p ≤ n) (hQ : Q (.inl (some (.int (bI (isA n X lo hi p))))) (mdW g P H X G f h)) : Tr tX10_isAt 0 0 [.ref 0, .int lo, .int hi] (mdW g P H X G f h) Q := by
  refine Tr.run sX10_isAt (by decide +kernel) rfl 60 fun Y => ?_
  refine And.intro (fun z => ?_) (fun z => ?_)
  · have hpn : ¬ p < n := fun y => absurd (show f 2 ≤ f 6 from z) (by rw [h6, h2]; exact nI_ge y (by omega))
    rw [isA_out hpn] at hQ
    exact ⟨rfl, hQ⟩
  · have hpn : p < n := by
      rcases Nat.lt_or_ge p n with y | y
      · exact y
      · exact absurd (show f 2 ≤ f 6 by rw [h6, h2]; exact nI_le y (by omega)) z
    rw [isA_in hpn] at hQ
    have v1 : (f 6).toNatClampNeg = p := by rw [h6]; exact nI_c (by omega)
    refine ⟨by rw [h6]; exact in_nI (by omega) (by decide), ?_⟩
    rw [v1]
    refine m_in ?_
    cases hb : inI (X p) lo hi with
    | false =>
      rw [hb] at hQ
      exact And.intro (fun _ => ⟨rfl, hQ⟩) (fun y => absurd rfl y)
    | true =>
      rw [hb] at hQ
      exact And.intro (fun y => absurd y (by decide)) (fun _ => ⟨rfl, hQ⟩)
set_option maxRecDepth 20000 in
theorem m_skips (h6 : f 6 = nI p) (h2 : f 2 = nI n) (hn : n ≤ 150) (hp : p ≤ n) (hQ : Q (.inl none) (mdW g P H X G (upd f 6 (nI (runE n X 32 32 p))) h)) : Tr tX10_skips 0 0 [.ref 0] (mdW g P H X G f h) Q := by
  refine Tr.of sX10_skips (by decide +kernel) (Nat.le_of_ble_eq_true rfl) fun Y hX => ?_
  have key : ∀ (d p : Nat) (jv : Int32), p + d = n → jv = nI p → Q (.inl none) (mdW g P H X G (upd f 6 (nI (runE n X 32 32 p))) h) → Y 0 [some (.ref 0)] [] (mdW g P H X G (upd f 6 jv) h) (0, 0) := by
    intro d
    induction d with
    | zero =>
      intro p jv hp hj hq
      refine go hX (fun _ => none) 40 ?_
      refine m_isAt (p := p) (n := n) (f := upd f 6 jv) (upd_i.trans hj) ((upd_o (by decide)).trans h2) hn (by omega) ?_
      have e : isA n X 32 32 p = false := isA_out (by omega)
      rw [e]
      rw [runE_no e, ← hj] at hq
      exact And.intro (fun _ => hq) (fun z => absurd rfl z)
    | succ d ih =>
      intro p jv hp hj hq
      refine go hX (fun pc => if pc = 0 then some 1 else none) 40 ?_
      refine m_isAt (p := p) (n := n) (f := upd f 6 jv) (upd_i.trans hj) ((upd_o (by decide)).trans h2) hn (by omega) ?_
      cases e : isA n X 32 32 p with
      | false =>
        rw [runE_no e, ← hj] at hq
        exact And.intro (fun _ => hq) (fun z => absurd rfl z)
      | true =>
        rw [runE_step e] at hq
        refine And.intro (fun z => absurd z (by decide)) (fun _ => ?_)
        exact ih (p + 1) (jv + 1) (by omega) (by rw [hj]; exact nI_1 p) hq
  have := key (n - p) p (f 6) (by omega) h6 hQ
  rw [upd_self] at this
  exact this
set_option maxRecDepth 20000 in
theorem m_isWord {fr : Nat} {fv a1 a2 a3 a4 a5 a6 : Int32} (hf : fv = nI fr) (h6 : f 6 = nI p) (hfr : fr ≤ p) (hp : p ≤ 150) (hQ : Q (.inl (some (.int (bI (isW X fr p a1 a2 a3 a4 a5 a6))))) (mdW g P H X G f h)) : Tr tX10_isWord 0 0 [.ref 0, .int fv, .int a1, .int a2, .int a3, .int a4, .int a5, .int a6] (mdW g P H X G f h) Q := by
  refine Tr.of sX10_isWord (by decide +kernel) (Nat.le_of_ble_eq_true rfl) fun Y hX => ?_
  have hmv : f 6 - fv = nI (p - fr) := by rw [h6, hf]; exact sub_nI hfr
  generalize hmg : f 6 - fv = mv at hmv
  have hidx : ∀ (c : Nat) (cv : Int32), cv = nI c → fr + c < 150 → vp_in (fv + cv) 150 ∧ (fv + cv).toNatClampNeg = fr + c := by
    intro c cv hcv hc
    have e : fv + cv = nI (fr + c) := by rw [hf, hcv, nI_add]
    rw [e]
    exact ⟨in_nI hc (by decide), nI_clamp (by omega)⟩
  have no : isW X fr p a1 a2 a3 a4 a5 a6 = false → ∀ x, Y 151 [some (.ref 0), some (.int fv), some (.int a1), some (.int a2), some (.int a3), some (.int a4), some (.int a5), some (.int a6), some (.int mv), x] [] (mdW g P H X G f h) (0, 0) := by
    intro hw x
    rw [hw] at hQ
    refine go hX (fun _ => none) 10 ?_
    exact ⟨rfl, hQ⟩
  have s127 : (isWP X fr p a1 a2 a3 a4 a5 a6 ↔ (6 ≤ lenW a4 a5 a6 → X (fr + 5) = a6)) → p - fr = lenW a4 a5 a6 → ∀ x, Y 127 [some (.ref 0), some (.int fv), some (.int a1), some (.int a2), some (.int a3), some (.int a4), some (.int a5), some (.int a6), some (.int mv), x] [] (mdW g P H X G f h) (0, 0) := by
    intro hw hlen x
    refine go hX (fun pc => if pc = 151 then some 10 else none) 30 ?_
    refine And.intro (fun z => ?_) (fun z => ?_)
    · have h6 : ¬ 6 ≤ lenW a4 a5 a6 := fun y => absurd (show mv < 6 from z) (by rw [hmv]; exact nI_nlt (b := 6) (by omega) (by omega))
      rw [isW_t (hw.mpr (fun y => absurd y h6))] at hQ
      exact ⟨rfl, hQ⟩
    · have h6 : 6 ≤ lenW a4 a5 a6 := by
        rcases Nat.lt_or_ge (p - fr) 6 with y | y
        · exact absurd (show mv < 6 by rw [hmv]; exact nI_lt (b := 6) y (by decide)) z
        · omega
      obtain ⟨w1, w2⟩ := hidx 5 5 rfl (by omega)
      refine ⟨w1, ?_⟩
      rw [w2]
      refine And.intro (fun y => ?_) (fun y => ?_)
      · exact no (isW_f (fun q => y (hw.mp q h6))) x
      · rw [isW_t (hw.mpr (fun _ => y))] at hQ
        exact ⟨rfl, hQ⟩
  have s108 : (isWP X fr p a1 a2 a3 a4 a5 a6 ↔ ((5 ≤ lenW a4 a5 a6 → X (fr + 4) = a5) ∧ (6 ≤ lenW a4 a5 a6 → X (fr + 5) = a6))) → p - fr = lenW a4 a5 a6 → ∀ x, Y 108 [some (.ref 0), some (.int fv), some (.int a1), some (.int a2), some (.int a3), some (.int a4), some (.int a5), some (.int a6), some (.int mv), x] [] (mdW g P H X G f h) (0, 0) := by
    intro hw hlen x
    refine go hX (fun pc => if pc = 151 then some 10 else if pc = 127 then some 10 else none) 30 ?_
    refine And.intro (fun z => ?_) (fun z => ?_)
    · have h6 : ¬ 5 ≤ lenW a4 a5 a6 := fun y => absurd (show mv < 5 from z) (by rw [hmv]; exact nI_nlt (b := 5) (by omega) (by omega))
      exact s127 (hw.trans ⟨fun q => q.2, fun q => ⟨fun y => absurd y h6, q⟩⟩) hlen x
    · have h6 : 5 ≤ lenW a4 a5 a6 := by
        rcases Nat.lt_or_ge (p - fr) 5 with y | y
        · exact absurd (show mv < 5 by rw [hmv]; exact nI_lt (b := 5) y (by decide)) z
        · omega
      obtain ⟨w1, w2⟩ := hidx 4 4 rfl (by omega)
      refine ⟨w1, ?_⟩
      rw [w2]
      refine And.intro (fun y => ?_) (fun y => ?_)
      · exact no (isW_f (fun q => y ((hw.mp q).1 h6))) x
      · exact s127 (hw.trans ⟨fun q => q.2, fun q => ⟨fun _ => y, q⟩⟩) hlen x
  have s84 : ∀ z : Bool, (z = true ↔ (p - fr = lenW a4 a5 a6 ∧ X fr = a1 ∧ X (fr + 1) = a2 ∧ X (fr + 2) = a3)) → Y 84 [some (.ref 0), some (.int fv), some (.int a1), some (.int a2), some (.int a3), some (.int a4), some (.int a5), some (.int a6), some (.int mv), some (.int (bI z))] [] (mdW g P H X G f h) (0, 0) := by
    intro z hz
    refine go hX (fun pc => if pc = 151 then some 10 else if pc = 108 then some 10 else none) 30 ?_
    cases z with
    | false =>
      refine And.intro (fun _ => ?_) (fun y => absurd rfl y)
      exact no (isW_f (fun q => by have := hz.mpr ⟨q.1, q.2.1, q.2.2.1, q.2.2.2.1⟩; cases this)) _
    | true =>
      obtain ⟨z0, z1, z2, z3⟩ := hz.mp rfl
      have hw : isWP X fr p a1 a2 a3 a4 a5 a6 ↔ ((4 ≤ lenW a4 a5 a6 → X (fr + 3) = a4) ∧ (5 ≤ lenW a4 a5 a6 → X (fr + 4) = a5) ∧ (6 ≤ lenW a4 a5 a6 → X (fr + 5) = a6)) := ⟨fun q => q.2.2.2.2, fun q => ⟨z0, z1, z2, z3, q⟩⟩
      refine And.intro (fun y => absurd y (by decide)) (fun _ => And.intro (fun z => ?_) (fun z => ?_))
      · have h6 : ¬ 4 ≤ lenW a4 a5 a6 := fun y => absurd (show mv < 4 from z) (by rw [hmv]; exact nI_nlt (b := 4) (by omega) (by omega))
        exact s108 (hw.trans ⟨fun q => q.2, fun q => ⟨fun y => absurd y h6, q⟩⟩) z0 _
      · have h6 : 4 ≤ lenW a4 a5 a6 := by
          rcases Nat.lt_or_ge (p - fr) 4 with y | y
          · exact absurd (show mv < 4 by rw [hmv]; exact nI_lt (b := 4) y (by decide)) z
          · omega
        obtain ⟨w1, w2⟩ := hidx 3 3 rfl (by omega)
        refine ⟨w1, ?_⟩
        rw [w2]
        refine And.intro (fun y => ?_) (fun y => ?_)
        · exact no (isW_f (fun q => y ((hw.mp q).1 h6))) _
        · exact s108 (hw.trans ⟨fun q => q.2, fun q => ⟨fun _ => y, q⟩⟩) z0 _
  have s39 : ∀ L : Nat, lenW a4 a5 a6 = L → L ≤ 6 → ∀ x, Y 39 [some (.ref 0), some (.int fv), some (.int a1), some (.int a2), some (.int a3), some (.int a4), some (.int a5), some (.int a6), some (.int mv), x] [.int (nI L), .int mv] (mdW g P H X G f h) (0, 0) := by
    intro L hL hL6 x
    refine go hX (fun pc => if pc = 84 then some 10 else none) 40 ?_
    have hl3 := lenW_3 a4 a5 a6
    refine And.intro (fun z => ?_) (fun z => ?_)
    · refine s84 false ⟨fun q => (nomatch q), fun q => absurd (show mv = nI L by rw [hmv, q.1, hL]) z⟩
    · have hz : p - fr = L := by
        have z2 : nI (p - fr) = nI L := by rw [← hmv]; exact z
        exact (nI_eq (by omega) (by omega)).mp z2
      have f0 : vp_in fv 150 := by rw [hf]; exact in_nI (by omega) (by decide)
      have f1 : fv.toNatClampNeg = fr := by rw [hf]; exact nI_c (by omega)
      obtain ⟨w1, w2⟩ := hidx 1 1 rfl (by omega)
      obtain ⟨w3, w4⟩ := hidx 2 2 rfl (by omega)
      refine ⟨f0, ?_⟩
      rw [f1]
      refine And.intro (fun y => ?_) (fun y1 => ⟨w1, ?_⟩)
      · exact s84 false ⟨fun q => (nomatch q), fun q => absurd q.2.1 y⟩
      · rw [w2]
        refine And.intro (fun y => ?_) (fun y2 => ⟨w3, ?_⟩)
        · exact s84 false ⟨fun q => (nomatch q), fun q => absurd q.2.2.1 y⟩
        · rw [w4]
          refine And.intro (fun y => ?_) (fun y3 => ?_)
          · exact s84 false ⟨fun q => (nomatch q), fun q => absurd q.2.2.2 y⟩
          · exact s84 true ⟨fun _ => ⟨by omega, y1, y2, y3⟩, fun _ => rfl⟩
  refine go hX (fun pc => if pc = 39 then some 10 else none) 40 ?_
  refine And.intro (fun z4 => And.intro (fun z5 => And.intro (fun z6 => ?_) (fun z6 => ?_)) (fun z5 => ?_)) (fun z4 => ?_)
  · have := s39 6 (by unfold lenW; rw [if_neg z4, if_neg z5, if_neg z6]) (by decide) none
    rw [← hmg] at this
    exact this
  · have := s39 5 (by unfold lenW; rw [if_neg z4, if_neg z5, if_pos z6]) (by decide) none
    rw [← hmg] at this
    exact this
  · have := s39 4 (by unfold lenW; rw [if_neg z4, if_pos z5]) (by decide) none
    rw [← hmg] at this
    exact this
  · have := s39 3 (by unfold lenW; rw [if_pos z4]) (by decide) none
    rw [← hmg] at this
    exact this
set_option maxRecDepth 20000 in
theorem m_commandAt {fr : Nat} {fv : Int32} (hf : fv = nI fr) (h6 : f 6 = nI p) (hfr : fr ≤ p) (hp : p ≤ 150) (hQ : ∀ v, v = nI (cmdN X fr p) - 1 → Q (.inl (some (.int v))) (mdW g P H X G f h)) : Tr tX10_commandAt 0 0 [.ref 0, .int fv] (mdW g P H X G f h) Q := by
  refine Tr.run sX10_commandAt (by decide +kernel) rfl 60 fun Y => ?_
  unfold cmdN at hQ
  refine m_isWord hf h6 hfr hp ?_
  cases w1 : isW X fr p 112 108 97 116 101 0 with
  | true =>
    rw [w1, if_pos rfl] at hQ
    exact And.intro (fun z => absurd z (by decide)) (fun _ => hQ 0 (by decide))
  | false =>
    rw [w1, if_neg (by decide)] at hQ
    refine And.intro (fun _ => ?_) (fun z => absurd rfl z)
    refine m_isWord hf h6 hfr hp ?_
    cases w2 : isW X fr p 114 101 97 100 0 0 with
    | true =>
      rw [w2, if_pos rfl] at hQ
      exact And.intro (fun z => absurd z (by decide)) (fun _ => hQ 1 (by decide))
    | false =>
      rw [w2, if_neg (by decide)] at hQ
      refine And.intro (fun _ => ?_) (fun z => absurd rfl z)
      refine m_isWord hf h6 hfr hp ?_
      cases w3 : isW X fr p 99 97 110 99 101 108 with
      | true =>
        rw [w3, if_pos rfl] at hQ
        exact And.intro (fun z => absurd z (by decide)) (fun _ => hQ 2 (by decide))
      | false =>
        rw [w3, if_neg (by decide)] at hQ
        refine And.intro (fun _ => ?_) (fun z => absurd rfl z)
        refine m_isWord hf h6 hfr hp ?_
        cases w4 : isW X fr p 115 101 116 0 0 0 with
        | true =>
          rw [w4, if_pos rfl] at hQ
          exact And.intro (fun z => absurd z (by decide)) (fun _ => hQ 3 (by decide))
        | false =>
          rw [w4, if_neg (by decide)] at hQ
          refine And.intro (fun _ => ?_) (fun z => absurd rfl z)
          refine m_isWord hf h6 hfr hp ?_
          cases w5 : isW X fr p 116 105 99 107 115 0 with
          | true =>
            rw [w5, if_pos rfl] at hQ
            exact And.intro (fun z => absurd z (by decide)) (fun _ => hQ 4 (by decide))
          | false =>
            rw [w5, if_neg (by decide)] at hQ
            exact And.intro (fun _ => hQ (-1) (by decide)) (fun z => absurd rfl z)
