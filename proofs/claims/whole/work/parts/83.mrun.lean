/-! ===== the reference: runCommands ===== -/
variable {g P H X G f : Nat → Int32} {h : Int64} {Q : AQ} {T n : Nat}
set_option maxRecDepth 20000 in
theorem m_does {w : Nat} {a : Kp} (hw0 : ¬ w = 0) (hw5 : w ≤ 5) (h7 : f 7 = nI w - 1) (h1 : f 1 = 1) (hR : RS g a.1) (hI : Inv T a.1) (hK : KR P f a.2) (hQ : ∀ g1 P1 H1 f1 : Nat → Int32, RS g1 (doA (UInt32.ofNat w) G a).2.1 → KR P1 f1 (doA (UInt32.ofNat w) G a).2.2 → (∀ k, ¬ k = 0 → ¬ k = 3 → ¬ k = 5 → f1 k = f k) → f1 3 = (doA (UInt32.ofNat w) G a).1 → Q (.inl none) (mdW g1 P1 H1 X G f1 h)) : Tr tX10_does 0 0 [.ref 0] (mdW g P H X G f h) Q := by
  have hsv : decide (f 1 = 0) = false := decide_eq_false (by rw [h1]; decide)
  have w1 := nI_sub1 hw5
  refine Tr.run sX10_does (by decide +kernel) rfl 60 fun Y => ?_
  refine And.intro (fun z0 => ?_) (fun z0 => And.intro (fun z1 => ?_) (fun z1 => And.intro (fun z2 => ?_) (fun z2 => And.intro (fun z3 => ?_) (fun z3 => ?_))))
  · have hw := (w1 1 (by decide) 0 (by decide)).mp (h7.symm.trans z0)
    rw [hw, show UInt32.ofNat 1 = 1 from rfl, doA_1] at hQ
    refine ⟨in_lit (by decide), in_lit (by decide), ?_⟩
    refine m_plate hR hI hK (fun g1 P1 H1 f1 q1 q2 q3 q4 => ?_)
    rw [hsv] at q1 q2 q4
    exact hQ g1 P1 H1 f1 q1 q2 q3 q4
  · have hw := (w1 2 (by decide) 1 (by decide)).mp (h7.symm.trans z1)
    rw [hw, show UInt32.ofNat 2 = 2 from rfl, doA_2] at hQ
    refine ⟨in_lit (by decide), in_lit (by decide), in_lit (by decide), ?_⟩
    refine m_request hR hI hK (fun g1 P1 H1 f1 q1 q2 q3 q4 => ?_)
    rw [hsv] at q1 q2 q4
    exact hQ g1 P1 H1 f1 q1 q2 q3 q4
  · have hw := (w1 3 (by decide) 2 (by decide)).mp (h7.symm.trans z2)
    rw [hw, show UInt32.ofNat 3 = 3 from rfl, doA_3] at hQ
    refine ⟨in_lit (by decide), ?_⟩
    refine m_cancel hR hI hK (fun g1 P1 H1 f1 q1 q2 q3 q4 => ?_)
    rw [hsv] at q1 q2 q4
    exact hQ g1 P1 H1 f1 q1 q2 q3 q4
  · have hw := (w1 4 (by decide) 3 (by decide)).mp (h7.symm.trans z3)
    rw [hw, show UInt32.ofNat 4 = 4 from rfl, doA_4] at hQ
    refine ⟨in_lit (by decide), in_lit (by decide), ?_⟩
    refine m_set hR hI hK (fun g1 P1 H1 f1 q1 q2 q3 q4 => ?_)
    rw [hsv] at q1 q2 q4
    exact hQ g1 P1 H1 f1 q1 q2 q3 q4
  · have n1 : ¬ w = 1 := fun y => z0 (h7.trans ((w1 1 (by decide) 0 (by decide)).mpr y))
    have n2 : ¬ w = 2 := fun y => z1 (h7.trans ((w1 2 (by decide) 1 (by decide)).mpr y))
    have n3 : ¬ w = 3 := fun y => z2 (h7.trans ((w1 3 (by decide) 2 (by decide)).mpr y))
    have n4 : ¬ w = 4 := fun y => z3 (h7.trans ((w1 4 (by decide) 3 (by decide)).mpr y))
    have hw : w = 5 := by omega
    rw [hw, show UInt32.ofNat 5 = 5 from rfl, doA_5] at hQ
    refine ⟨in_lit (by decide), ?_⟩
    refine m_pass hR hI hK (fun g1 P1 H1 f1 q1 q2 q3 q4 => ?_)
    rw [hsv] at q1 q2 q4
    exact hQ g1 P1 H1 f1 q1 q2 q3 q4
set_option maxRecDepth 20000 in
theorem m_runCommands {a : Kp} (h2 : f 2 = nI n) (hn : n ≤ 150) (h1 : f 1 = 0) (hR : RS g a.1) (hA : AInv T a) (hT : T + n < 2 ^ 31) (hK : KR P f a.2) (hQ : ∀ g1 P1 H1 G1 f1 : Nat → Int32, RS g1 (runA n X a).2.1 → KR P1 f1 (runA n X a).2.2 → (∀ k, ¬ k = 0 → ¬ k = 3 → ¬ k = 5 → ¬ k = 6 → ¬ k = 7 → f1 k = f k) → f1 3 = 0 → Q (.inl (some (.int (runA n X a).1))) (mdW g1 P1 H1 X G1 f1 h)) : Tr tX10_runCommands 0 0 [.ref 0] (mdW g P H X G f h) Q := by
  refine Tr.of sX10_runCommands (by decide +kernel) (Nat.le_of_ble_eq_true rfl) fun Y hX => ?_
  have s98 : ∀ (k : Nat) (a1 : Kp) (g1 P1 H1 G1 f1 : Nat → Int32) (x y : Option Value), runA n X a = (nI k, a1) → RS g1 a1.1 → KR P1 f1 a1.2 → (∀ k, ¬ k = 0 → ¬ k = 1 → ¬ k = 3 → ¬ k = 5 → ¬ k = 6 → ¬ k = 7 → f1 k = f k) → Y 98 [some (.ref 0), x, some (.int (nI k)), y] [] (mdW g1 P1 H1 X G1 f1 h) (0, 0) := by
    intro k a1 g1 P1 H1 G1 f1 x y he q1 q2 q3
    rw [he] at hQ
    refine go hX (fun _ => none) 40 ?_
    refine ⟨Or.inl rfl, ?_⟩
    refine hQ g1 P1 H1 G1 (upd (upd f1 1 0) 3 0) q1 (q2.mv rfl) (fun k k0 k3 k5 k6 k7 => ?_) rfl
    rw [upd_o k3]
    by_cases k1 : k = 1
    · rw [k1, upd_i, h1]
    · rw [upd_o k1]
      exact q3 k k0 k1 k3 k5 k6 k7
  have key : fltF n X n (runE n X 32 32 0) = -1 → ∀ (d s T1 : Nat) (a1 : Kp) (k : Nat) (g1 P1 H1 G1 f1 : Nat → Int32), n - s ≤ d → s ≤ n → fltF n X d s = -1 → exF n X d s a1 k = exF n X n (runE n X 32 32 0) (a.1, pushS a.2 a.1) 0 → RS g1 a1.1 → KR P1 f1 a1.2 → AInv T1 a1 → T1 + d < 2 ^ 31 → f1 6 = nI s → f1 1 = 1 → (∀ k, ¬ k = 0 → ¬ k = 1 → ¬ k = 3 → ¬ k = 5 → ¬ k = 6 → ¬ k = 7 → f1 k = f k) → Y 42 [some (.ref 0), some (.int (-1)), some (.int (nI k)), some (.int 1)] [] (mdW g1 P1 H1 X G1 f1 h) (0, 0) := by
    intro hflt
    have hrun : runA n X a = (nI (exF n X n (runE n X 32 32 0) (a.1, pushS a.2 a.1) 0).1, (exF n X n (runE n X 32 32 0) (a.1, pushS a.2 a.1) 0).2) := if_pos hflt
    intro d
    induction d with
    | zero =>
      intro s T1 a1 k g1 P1 H1 G1 f1 hd hs hf he q1 q2 q3 hT1 e6 e1 ek
      have e2 : f1 2 = nI n := (ek 2 (by decide) (by decide) (by decide) (by decide) (by decide) (by decide)).trans h2
      rw [← he] at hrun
      refine go hX (fun pc => if pc = 98 then some 4 else none) 40 ?_
      refine And.intro (fun z => absurd z (by decide)) (fun _ => And.intro (fun _ => ?_) (fun z => ?_))
      · exact s98 k a1 g1 P1 H1 G1 f1 _ _ hrun q1 q2 ek
      · exact absurd (show f1 2 ≤ f1 6 by rw [e2, e6, show s = n by omega]; exact Int32.le_refl _) z
    | succ d ih =>
      intro s T1 a1 k g1 P1 H1 G1 f1 hd hs hf he q1 q2 q3 hT1 e6 e1 ek
      have e2 : f1 2 = nI n := (ek 2 (by decide) (by decide) (by decide) (by decide) (by decide) (by decide)).trans h2
      refine go hX (fun pc => if pc = 98 then some 4 else if pc = 61 then some 4 else none) 40 ?_
      refine And.intro (fun z => absurd z (by decide)) (fun _ => And.intro (fun z => ?_) (fun z => ?_))
      · have hsn : ¬ s < n := fun y => absurd (show f1 2 ≤ f1 6 from z) (by rw [e2, e6]; exact nI_ge y (by omega))
        have e : exF n X (d + 1) s a1 k = (k, a1) := if_neg hsn
        rw [e] at he
        rw [← he] at hrun
        exact s98 k a1 g1 P1 H1 G1 f1 _ _ hrun q1 q2 ek
      · have hsn : s < n := by
          rcases Nat.lt_or_ge s n with y | y
          · exact y
          · exact absurd (show f1 2 ≤ f1 6 by rw [e2, e6]; exact nI_le y (by omega)) z
        have ef : fltF n X (d + 1) s = if (cmdF n X s).1 = true then fltF n X d (cmdF n X s).2.1 else nI (cmdF n X s).2.1 := if_pos hsn
        have ee : exF n X (d + 1) s a1 k = if (doA (UInt32.ofNat (cmdF n X s).2.2.1) (fun j => (cmdF n X s).2.2.2.getD j 0) a1).1 = 0 then exF n X d (cmdF n X s).2.1 (doA (UInt32.ofNat (cmdF n X s).2.2.1) (fun j => (cmdF n X s).2.2.2.getD j 0) a1).2 (k + 1) else (k, (doA (UInt32.ofNat (cmdF n X s).2.2.1) (fun j => (cmdF n X s).2.2.2.getD j 0) a1).2) := if_pos hsn
        rw [ef] at hf
        rw [ee] at he
        have hcb := cmdF_b (b := X) hs
        have hai := ai_do (u := UInt32.ofNat (cmdF n X s).2.2.1) (N := fun j => (cmdF n X s).2.2.2.getD j 0) q3 (by omega)
        have hb : (cmdF n X s).1 = true := by
          cases hb : (cmdF n X s).1 with
          | true => rfl
          | false =>
            rw [hb, if_neg (by decide)] at hf
            exact absurd hf (nI_m1 (by omega))
        rw [hb, if_pos rfl] at hf
        obtain ⟨hvl, hw0⟩ := hcb.2.2.2.2 hb
        refine m_readsOne e6 e2 hn hs (fun G2 f2 a6 a7 ak av => ?_)
        rw [hb]
        refine go hX (fun pc => if pc = 66 then some 4 else none) 40 ?_
        refine m_does (w := (cmdF n X s).2.2.1) (a := a1) hw0 hcb.2.2.2.1 a7 ((ak 1 (by decide) (by decide)).trans e1) q1 q3.1 (q2.mv (ak 0 (by decide) (by decide))) (fun g3 P3 H3 f3 r1 r2 r3 r4 => ?_)
        rw [doA_cg hcb.2.2.2.1 (av hb) a1] at r1 r2 r4
        generalize doA (UInt32.ofNat (cmdF n X s).2.2.1) (fun j => (cmdF n X s).2.2.2.getD j 0) a1 = q at *
        have ek3 : ∀ k, ¬ k = 0 → ¬ k = 1 → ¬ k = 3 → ¬ k = 5 → ¬ k = 6 → ¬ k = 7 → f3 k = f k := fun k k0 k1 k3 k5 k6 k7 => (r3 k k0 k3 k5).trans ((ak k k6 k7).trans (ek k k0 k1 k3 k5 k6 k7))
        refine go hX (fun pc => if pc = 98 then some 4 else if pc = 42 then some 4 else none) 40 ?_
        refine And.intro (fun z => absurd z (by decide)) (fun _ => And.intro (fun y => ?_) (fun y => ?_))
        · have hq : ¬ q.1 = 0 := fun z => y (r4.trans z)
          rw [if_neg hq] at he
          rw [← he] at hrun
          refine And.intro (fun _ => ?_) (fun z => absurd rfl z)
          have p42 : Y 42 [some (.ref 0), some (.int (-1)), some (.int (nI k)), some (.int 0)] [] (mdW g3 P3 H3 X G2 f3 h) (0, 0) := by
            refine go hX (fun pc => if pc = 98 then some 4 else none) 40 ?_
            exact And.intro (fun _ => s98 k q.2 g3 P3 H3 G2 f3 _ _ hrun r1 r2 ek3) (fun z => absurd rfl z)
          rw [← Int32.add_zero (nI k)] at p42
          exact p42
        · have hq : q.1 = 0 := r4.symm.trans y
          rw [if_pos hq] at he
          refine And.intro (fun z => absurd z (by decide)) (fun _ => ?_)
          have := ih (cmdF n X s).2.1 (T1 + 1) q.2 (k + 1) g3 P3 H3 G2 f3 (by have := hcb.2.2.1 hb; omega) hcb.2.1 hf he r1 r2 hai (by omega) ((r3 6 (by decide) (by decide) (by decide)).trans a6) ((r3 1 (by decide) (by decide) (by decide)).trans ((ak 1 (by decide) (by decide)).trans e1)) ek3
          rw [← nI_1] at this
          exact this
  refine go hX (fun pc => if pc = 10 then some 4 else none) 40 ?_
  refine m_fault (f := upd f 3 0) ((upd_o (by decide)).trans h2) hn (fun G1 f1 q1 => ?_)
  have q10 : f1 1 = 0 := (q1 1 (by decide) (by decide)).trans ((upd_o (by decide)).trans h1)
  by_cases hflt : fltF n X n (runE n X 32 32 0) = -1
  · rw [hflt]
    refine go hX (fun pc => if pc = 24 then some 4 else none) 40 ?_
    refine And.intro (fun _ => ?_) (fun z => absurd rfl z)
    refine m_savesK (f := f1) (ps := a.2) (s := a.1) (hK.mv ((q1 0 (by decide) (by decide)).trans (upd_o (by decide)))) hR hA.1.rb (fun P2 f2 p1 p2 => ?_)
    rw [decide_eq_true q10] at p1
    have p1' : KR P2 f2 (pushS a.2 a.1) := p1
    refine go hX (fun pc => if pc = 42 then some 4 else none) 40 ?_
    refine ⟨Or.inr rfl, ?_⟩
    have f22 : upd (upd f2 1 1) 6 0 2 = nI n := (p2 2 (by decide)).trans ((q1 2 (by decide) (by decide)).trans h2)
    refine m_skips (p := 0) (n := n) (f := upd (upd f2 1 1) 6 0) (upd_i.trans (by decide)) f22 hn (Nat.zero_le _) ?_
    exact key hflt n (runE n X 32 32 0) T (a.1, pushS a.2 a.1) 0 g P2 H G1 (upd (upd (upd f2 1 1) 6 0) 6 (nI (runE n X 32 32 0))) (by omega) (runE_le (Nat.zero_le _)) hflt rfl hR (p1'.mv rfl) ⟨hA.1, ai_keep (sv := true) hA⟩ hT upd_i rfl (fun k k0 k1 k3 k5 k6 k7 => (upd_o k6).trans ((upd_o k6).trans ((upd_o k1).trans ((p2 k k0).trans ((q1 k k6 k7).trans (upd_o k3))))))
  · have hr : runA n X a = (-10 - fltF n X n (runE n X 32 32 0), a) := if_neg hflt
    rw [hr] at hQ
    refine go hX (fun _ => none) 40 ?_
    refine And.intro (fun z => absurd z hflt) (fun _ => ?_)
    exact hQ g P H G1 f1 hR (hK.mv ((q1 0 (by decide) (by decide)).trans (upd_o (by decide)))) (fun k k0 k3 k5 k6 k7 => (q1 k k6 k7).trans (upd_o k3)) ((q1 3 (by decide) (by decide)).trans upd_i)
