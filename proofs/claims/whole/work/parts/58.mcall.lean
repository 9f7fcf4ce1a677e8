/-! ===== the reference: the calls that change ===== -/
variable {g P H X G f : Nat → Int32} {h : Int64} {Q : AQ} {T : Nat}
abbrev Kp : Type := Sg × List Sg
def keepK (sv : Bool) (a : Kp) : List Sg := if sv = true then pushS a.2 a.1 else a.2
def KR (P f : Nat → Int32) (ps : List Sg) : Prop := f 0 = nI ps.length ∧ ps.length ≤ 4 ∧ PR P ps
def Kq (Q : AQ) (X G f : Nat → Int32) (h : Int64) (r : Int32 × Int32 × Kp) : Prop := ∀ g1 P1 H1 f1 : Nat → Int32, RS g1 r.2.2.1 → KR P1 f1 r.2.2.2 → (∀ k, ¬ k = 0 → ¬ k = 3 → ¬ k = 5 → f1 k = f k) → f1 3 = r.1 → Q (.inl (some (.int r.2.1))) (mdW g1 P1 H1 X G f1 h)
def inI (v lo hi : Int32) : Bool := decide (lo ≤ v) && decide (v ≤ hi)
theorem inI_t {v lo hi : Int32} (h1 : lo ≤ v) (h2 : v ≤ hi) : inI v lo hi = true := by unfold inI; rw [decide_eq_true h1, decide_eq_true h2]; rfl
theorem inI_l {v lo hi : Int32} (h1 : ¬ lo ≤ v) : inI v lo hi = false := by unfold inI; rw [decide_eq_false h1]; rfl
theorem inI_h {v lo hi : Int32} (h1 : ¬ v ≤ hi) : inI v lo hi = false := by unfold inI; rw [decide_eq_false h1]; exact Bool.and_false _
set_option maxRecDepth 20000 in
theorem m_in {M : AM} {v lo hi : Int32} (hQ : Q (.inl (some (.int (bI (inI v lo hi))))) M) : Tr tX10_in 0 0 [.int v, .int lo, .int hi] M Q := by
  refine Tr.run sX10_in (by decide +kernel) rfl 60 fun X => ?_
  refine And.intro (fun h => ⟨rfl, ?_⟩) (fun h => And.intro (fun h2 => ⟨rfl, ?_⟩) (fun h2 => ⟨rfl, ?_⟩))
  · rw [inI_l (Int32.not_le.mpr h)] at hQ; exact hQ
  · rw [inI_h (Int32.not_le.mpr h2)] at hQ; exact hQ
  · rw [inI_t (Int32.not_lt.mp h) (Int32.not_lt.mp h2)] at hQ; exact hQ
set_option maxRecDepth 20000 in
theorem m_throws {p : Int32} (hQ : Q (.inl (some (.int (z01 (0 < p))))) (mdW g P H X G (upd f 3 p) h)) : Tr tX10_throwsAt 0 0 [.ref 0, .int p] (mdW g P H X G f h) Q := by
  refine Tr.run sX10_throwsAt (by decide +kernel) rfl 60 fun X => ?_
  refine And.intro (fun h => ⟨rfl, ?_⟩) (fun h => ⟨rfl, ?_⟩)
  · rw [z01_f (Int32.not_lt.mpr h)] at hQ; exact hQ
  · rw [z01_t (Int32.not_le.mp h)] at hQ; exact hQ
theorem m_savesK {s : Sg} {ps : List Sg} (hK : KR P f ps) (hR : RS g s) (hb : RB s) (hQ : ∀ P1 f1, KR P1 f1 (keepK (decide (f 1 = 0)) (s, ps)) → (∀ k, ¬ k = 0 → f1 k = f k) → Q (.inl none) (mdW g P1 H X G f1 h)) : Tr tX10_saves 0 0 [.ref 0] (mdW g P H X G f h) Q := by
  by_cases hr : f 1 = 0
  · have ek : keepK (decide (f 1 = 0)) (s, ps) = pushS ps s := if_pos (decide_eq_true hr)
    rw [ek] at hQ
    refine m_saves hr hK.1 hK.2.1 hK.2.2 hR hb (fun P1 hP1 => hQ P1 _ ⟨upd_i, ?_, hP1⟩ (fun k hk => upd_o hk))
    rw [pushS_len hK.2.1]
    omega
  · have ek : keepK (decide (f 1 = 0)) (s, ps) = ps := if_neg (by rw [decide_eq_false hr]; decide)
    rw [ek] at hQ
    exact m_saves0 hr (hQ P f hK (fun _ _ => rfl))
theorem KR.mv {P f f1 : Nat → Int32} {ps : List Sg} (h : KR P f ps) (h0 : f1 0 = f 0) : KR P f1 ps := ⟨h0.trans h.1, h.2⟩
def plateFit (t c : Int32) : Bool := inI t 4 24 && inI c 3 12
def plateA (sv : Bool) (t c : Int32) (a : Kp) : Int32 × Int32 × Kp := if plateFit t c = true then (0, nI a.1.2.1.length, (putS a.1 t c, keepK sv a)) else (1, 0, a)
set_option maxRecDepth 20000 in
theorem m_plate {t c : Int32} {a : Kp} (hR : RS g a.1) (hI : Inv T a.1) (hK : KR P f a.2) (hQ : Kq Q X G f h (plateA (decide (f 1 = 0)) t c a)) : Tr tX10_plate 0 0 [.ref 0, .int t, .int c] (mdW g P H X G f h) Q := by
  refine Tr.of sX10_plate (by decide +kernel) (Nat.le_of_ble_eq_true rfl) fun Y hX => ?_
  have bad : plateFit t c = false → Y 25 [some (.ref 0), some (.int t), some (.int c), none, none] [.ref 0] (mdW g P H X G f h) (0, 0) := by
    intro hf
    unfold plateA at hQ
    rw [if_neg (by rw [hf]; decide)] at hQ
    refine go hX (fun _ => none) 40 ?_
    refine m_throws ?_
    refine And.intro (fun z => absurd z (by decide)) (fun _ => ?_)
    exact hQ g P H (upd f 3 1) hR (hK.mv rfl) (fun k _ h3 _ => upd_o h3) upd_i
  have good : plateFit t c = true → Y 21 [some (.ref 0), some (.int t), some (.int c), none, none] [.ref 0] (mdW g P H X G f h) (0, 0) := by
    intro hf
    unfold plateA at hQ
    rw [if_pos hf] at hQ
    have key : ∀ (d i : Nat) (jv : Int32) (g1 P1 f1 : Nat → Int32), i + d = 133 → 6 ≤ i → jv = nI i → (∀ k, 6 ≤ k → k < i → g1 k = 0) → (∀ k, k < 6 → g1 k = g k) → KR P1 f1 (keepK (decide (f 1 = 0)) a) → (∀ k, ¬ k = 0 → ¬ k = 3 → ¬ k = 5 → f1 k = f k) → f1 3 = 0 → Y 50 [some (.ref 0), some (.int t), some (.int c), some (.int (nI a.1.2.1.length)), some (.int jv)] [] (mdW g1 P1 H X G f1 h) (0, 0) := by
      intro d
      induction d with
      | zero =>
        intro i jv g1 P1 f1 hi h6 hj h1 h2 hK1 hf1 hf3
        refine go hX (fun _ => none) 40 ?_
        refine And.intro (fun _ => ⟨in_lit (by decide), in_lit (by decide), in_lit (by decide), ?_⟩) (fun h => absurd (by rw [hj, show i = 133 by omega]; exact Int32.le_refl _) h)
        have hz : ∀ k, 6 ≤ k → k < 133 → ¬ k = 20 → upd (upd (upd g1 0 t) 1 c) 20 1 k = 0 := by
          intro k ha hb hc
          rw [upd_o hc, upd_o (by omega), upd_o (by omega)]
          exact h1 k ha (by omega)
        refine hQ (upd (upd (upd g1 0 t) 1 c) 20 1) P1 H f1 ⟨fun k hk => ?_, ?_, ?_, fun k r hr => absurd (show ([] : List Rq)[k]? = some r from hr) (by simp), fun k r hr => absurd (show ([] : List Rq)[k]? = some r from hr) (by simp)⟩ hK1 hf1 hf3
        · show _ = putU a.1.1 t c k
          unfold putU upd
          by_cases k0 : k = 0
          · simp [k0]
          · by_cases k1 : k = 1
            · simp [k1]
            · by_cases k20 : k = 20
              · simp [k20]
              · simp only [if_neg k0, if_neg k1, if_neg k20]
                by_cases k6 : 6 ≤ k
                · rw [if_pos k6]
                  exact h1 k k6 (by omega)
                · rw [if_neg k6, h2 k (by omega)]
                  exact hR.1 k hk
        · rw [hz 21 (by decide) (by decide) (by decide)]; rfl
        · rw [hz 22 (by decide) (by decide) (by decide)]; rfl
      | succ d ih =>
        intro i jv g1 P1 f1 hi h6 hj h1 h2 hK1 hf1 hf3
        have v0 : vp_in jv 133 := by rw [hj]; exact in_nI (by omega) (by decide)
        have v1 : jv.toNatClampNeg = i := by rw [hj]; exact nI_clamp (by omega)
        refine go hX (fun pc => if pc = 50 then some 5 else none) 40 ?_
        refine And.intro (fun h => absurd h (by rw [hj]; exact nI_ge (b := 133) (by omega) (by decide))) (fun _ => ⟨v0, ?_⟩)
        rw [v1]
        refine ih (i + 1) (jv + 1) _ P1 f1 (by omega) (by omega) (by rw [hj]; exact nI_1 i) (fun k ha hb => ?_) (fun k hk => ?_) hK1 hf1 hf3
        · show upd g1 i 0 k = 0
          unfold upd
          split
          · rfl
          · exact h1 k ha (by omega)
        · show upd g1 i 0 k = g k
          rw [upd_o (by omega)]
          exact h2 k hk
    refine go hX (fun pc => if pc = 50 then some 5 else none) 60 ?_
    refine m_throws ?_
    refine And.intro (fun _ => ?_) (fun z => absurd rfl z)
    refine m_savesK (f := upd f 3 0) (ps := a.2) (hK.mv rfl) hR hI.rb (fun P1 f1 hK1 hf1 => ⟨in_lit (by decide), ?_⟩)
    have := key 127 6 6 g P1 f1 (by omega) (Nat.le_refl _) rfl (fun k ha hb => absurd hb (by omega)) (fun k _ => rfl) hK1 (fun k h0 h3 h5 => (hf1 k h0).trans (upd_o h3)) ((hf1 3 (by decide)).trans upd_i)
    rw [← hR.2.1] at this
    exact this
  refine go hX (fun pc => if pc = 25 then some 5 else if pc = 21 then some 5 else none) 40 ?_
  refine m_in ?_
  cases h1 : inI t 4 24 with
  | false => exact And.intro (fun _ => bad (by unfold plateFit; rw [h1]; rfl)) (fun z => absurd rfl z)
  | true =>
    refine And.intro (fun z => absurd z (by decide)) (fun _ => ?_)
    refine m_in ?_
    cases h2 : inI c 3 12 with
    | false => exact And.intro (fun _ => bad (by unfold plateFit; rw [h1, h2]; rfl)) (fun z => absurd rfl z)
    | true => exact And.intro (fun z => absurd z (by decide)) (fun _ => good (by unfold plateFit; rw [h1, h2]; rfl))
