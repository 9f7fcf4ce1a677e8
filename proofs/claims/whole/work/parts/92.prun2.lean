/-! ===== PlateArm: runCommands ===== -/
variable {Q : AQ} {mc ms T n : Nat} {b : Nat → Int32} {a : Kp} {M : AM}
def eF : List Nat := [33, 34, 31, 32]
def pF : List (Option Nat) := [none, none, none, none, none, none, none, none, none, none, none, none, none, none, none, none, none, none, none, none, none, none, none, none, none, none, none, none, none, none, none, some 2, some 3, some 0, some 1]
def eX : List Nat := [31, 32]
def pX : List (Option Nat) := [none, none, none, none, none, none, none, none, none, none, none, none, none, none, none, none, none, none, none, none, none, none, none, none, none, none, none, none, none, none, none, some 0, some 1]
def eC : List Nat := [33, 34]
def pC : List (Option Nat) := [none, none, none, none, none, none, none, none, none, none, none, none, none, none, none, none, none, none, none, none, none, none, none, none, none, none, none, none, none, none, none, none, none, some 0, some 1]
theorem flt_0 {len : Int32} {B : Nat → Int32} {c : Scn} (hT : TB len B b n) (h0 : c.2.1 = 0) : FC len B n 0 c = fltF n b n (runE n b 32 32 0) := by
  rw [FC_seg (seg_sp0 hT h0 (n - 0) 0)]
  exact flt_eq hT n _ c (by omega) (runE_le (Nat.zero_le _)) (runE_stop _) h0
theorem ex_0 {len : Int32} {B : Nat → Int32} {c : Scn} {k : Nat} (hT : TB len B b n) (h0 : c.2.1 = 0) (hf : fltF n b n (runE n b 32 32 0) = -1) : exC len B b (n - 0) 0 c a k = exF n b n (runE n b 32 32 0) a k := by
  rw [exC_seg (seg_sp0 hT h0 (n - 0) 0)]
  exact ex_eq hT n _ c a k (by omega) (runE_le (Nat.zero_le _)) (runE_stop _) h0 hf
set_option maxRecDepth 20000 in
theorem p_runCommands (hA : AInv T a) (hTT : T + n + 12 < 2 ^ 31) (hW : CW T a n b M) (hQ : ∀ M1, CW (T + n) (runA n b a).2 n b M1 → Q (.inl (some (.int (runA n b a).1))) M1) : Tr tX9_runCommands mc ms [.ref 0] M Q := by
  obtain ⟨S, R, L, tw, f, fc, B, c, wn, rfl, hC, hl, hV, hS, hT⟩ := hW
  have hn150 := hT.2.1
  have hlen := hT.l150
  refine Tr.of sX9_runCommands (by decide +kernel) (Nat.le_of_ble_eq_true rfl) fun X hX => ?_
  have loop : fltF n b n (runE n b 32 32 0) = -1 → ∀ f1 wn1, SvR T f1 wn1 (pushS a.2 a.1) → ∀ (d p k T1 : Nat) (av : Int32) (a1 : Kp) (S1 : Nat → Int32) (R1 : Nat → Nat → Int32) (L1 : Nat → Int32) (c1 : Scn), p + d = n → av = nI p → SI p c1 → FC (nI n) B n p c1 = -1 → exC (nI n) B b (n - p) p c1 a1 k = exF n b n (runE n b 32 32 0) (a.1, pushS a.2 a.1) 0 → Inv T1 a1.1 → T1 + d ≤ T + n → CS T1 a1.1 S1 R1 L1 → a1.2 = pushS a.2 a.1 → X 37 [some (.ref 0), some (.int (-1)), some (.int (nI k)), some (.int av)] [] (PX a1 S1 R1 L1 tw f1 fc n B c1 wn1) (mc, ms) := by
    intro hflt f1 wn1 hV1
    have hrun : runA n b a = (nI (exF n b n (runE n b 32 32 0) (a.1, pushS a.2 a.1) 0).1, (exF n b n (runE n b 32 32 0) (a.1, pushS a.2 a.1) 0).2) := if_pos hflt
    rw [hrun] at hQ
    have fin : ∀ (k T1 : Nat) (a1 : Kp) (S1 : Nat → Int32) (R1 : Nat → Nat → Int32) (L1 : Nat → Int32) (c1 : Scn), (k, a1) = exF n b n (runE n b 32 32 0) (a.1, pushS a.2 a.1) 0 → T1 ≤ T + n → CS T1 a1.1 S1 R1 L1 → a1.2 = pushS a.2 a.1 → SC c1 → Q (.inl (some (.int (nI k)))) (PX a1 S1 R1 L1 tw f1 fc n B c1 wn1) := by
      intro k T1 a1 S1 R1 L1 c1 he hT1 hC1 ha hS1
      rw [← he] at hQ
      exact hQ _ ⟨S1, R1, L1, tw, f1, fc, B, c1, wn1, rfl, hC1.mono hT1, by rw [ha]; exact push4 hl, by rw [ha]; exact hV1.mono (Nat.le_add_right _ _), hS1, hT⟩
    intro d
    induction d with
    | zero =>
      intro p k T1 av a1 S1 R1 L1 c1 hp hav hSI hFC hex hI1 hT1 hC1 ha
      have e : exC (nI n) B b (n - p) p c1 a1 k = (k, a1) := by rw [show n - p = 0 by omega]; rfl
      rw [e] at hex
      refine go hX (fun _ => none) 40 ?_
      refine And.intro (fun _ => ?_) (fun z => absurd (show nI n ≤ av by rw [hav, show p = n by omega]; exact Int32.le_refl _) z)
      exact fin k T1 a1 S1 R1 L1 c1 hex (by omega) hC1 ha hSI.1
    | succ d ih =>
      intro p k T1 av a1 S1 R1 L1 c1 hp hav hSI hFC hex hI1 hT1 hC1 ha
      have hpn : p < n := by omega
      have hsp := take_si hT hpn hSI
      have hbyte : byteV (nI n) B av = b p := by rw [hav]; exact byte_in hT hpn
      have ht1 : (takeC (nI n) B (nI p) c1).1 = -1 := by
        rw [FC_step hpn] at hFC
        by_cases z : (takeC (nI n) B (nI p) c1).1 = -1
        · exact z
        · rw [if_neg z] at hFC
          exact hFC
      have hFC2 : FC (nI n) B n (p + 1) (takeC (nI n) B (nI p) c1).2 = -1 := by
        rw [FC_step hpn, if_pos ht1] at hFC
        exact hFC
      have hex2 : exC (nI n) B b (n - p) p c1 a1 k = if b p = 59 then (if (doA (takeC (nI n) B (nI p) c1).2.1 (takeC (nI n) B (nI p) c1).2.2.2.2.2.2 a1).1 = 0 then exC (nI n) B b (n - (p + 1)) (p + 1) (takeC (nI n) B (nI p) c1).2 (doA (takeC (nI n) B (nI p) c1).2.1 (takeC (nI n) B (nI p) c1).2.2.2.2.2.2 a1).2 (k + 1) else (k, (doA (takeC (nI n) B (nI p) c1).2.1 (takeC (nI n) B (nI p) c1).2.2.2.2.2.2 a1).2)) else exC (nI n) B b (n - (p + 1)) (p + 1) (takeC (nI n) B (nI p) c1).2 a1 k := by
        rw [show n - p = (n - (p + 1)) + 1 by omega]
        rfl
      rw [hex2] at hex
      have hS2 := hsp.2 ht1
      generalize hc2 : takeC (nI n) B (nI p) c1 = r at *
      obtain ⟨⟨hw6, kk, hk3, hkk⟩, w, hws⟩ := id hSI
      have nxt : ∀ (k2 T2 : Nat) (a2 : Kp) (S2 : Nat → Int32) (R2 : Nat → Nat → Int32) (L2 : Nat → Int32), exC (nI n) B b (n - (p + 1)) (p + 1) r.2 a2 k2 = exF n b n (runE n b 32 32 0) (a.1, pushS a.2 a.1) 0 → Inv T2 a2.1 → T2 + d ≤ T + n → CS T2 a2.1 S2 R2 L2 → a2.2 = pushS a.2 a.1 → X 100 [some (.ref 0), some (.int (-1)), some (.int (nI k2)), some (.int av)] [] (PX a2 S2 R2 L2 tw f1 fc n B r.2 wn1) (mc, ms) := by
        intro k2 T2 a2 S2 R2 L2 q1 q2 q3 q4 q5
        refine go hX (fun pc => if pc = 37 then some 4 else none) 40 ?_
        exact ih (p + 1) k2 T2 (av + 1) a2 S2 R2 L2 r.2 (by omega) (by rw [hav]; exact nI_1 p) hS2 hFC2 q1 q2 q3 q4 q5
      have p92 : ∀ (v : Int32) (q : Int32 × Kp) (S2 : Nat → Int32) (R2 : Nat → Nat → Int32) (L2 : Nat → Int32), q = doA r.2.1 r.2.2.2.2.2.2 a1 → v = bZ q.1 → b p = 59 → CS (T1 + 1) q.2.1 S2 R2 L2 → X 92 [some (.ref 0), some (.int (-1)), some (.int (nI k)), some (.int av)] [.int v] (PX q.2 S2 R2 L2 tw f1 fc n B r.2 wn1) (mc, ms) := by
        intro v q S2 R2 L2 hq hv h59 hC2
        rw [if_pos h59, ← hq] at hex
        have hq2 : q.2.2 = pushS a.2 a.1 := by rw [hq, do_2]; exact ha
        have hIq : Inv (T1 + 1) q.2.1 := by
          rw [hq]
          exact (ai_do (a := (a1.1, [])) (u := r.2.1) (N := r.2.2.2.2.2.2) ⟨hI1, fun s hs => by cases hs⟩ (by omega)).1 |> fun h => by
            have e : (doA r.2.1 r.2.2.2.2.2.2 (a1.1, [])).2.1 = (doA r.2.1 r.2.2.2.2.2.2 a1).2.1 := do_1 _ _ _ _ rfl
            rw [← e]; exact h
        by_cases hz : q.1 = 0
        · rw [if_pos hz] at hex
          rw [hv, hz, bZ_0]
          refine go hX (fun pc => if pc = 100 then some 4 else none) 40 ?_
          refine And.intro (fun _ => ?_) (fun z => absurd z (by decide))
          have := nxt (k + 1) (T1 + 1) q.2 S2 R2 L2 hex hIq (by omega) hC2 hq2
          rw [← nI_1] at this
          exact this
        · rw [if_neg hz] at hex
          rw [hv, bZ_n hz]
          refine go hX (fun _ => none) 40 ?_
          refine And.intro (fun z => absurd rfl z) (fun _ => ?_)
          exact fin k (T1 + 1) q.2 S2 R2 L2 r.2 hex (by omega) hC2 hq2 hsp.1
      have p69 : X 69 [some (.ref 0), some (.int (-1)), some (.int (nI k)), some (.int av)] [.int (b p)] (PX a1 S1 R1 L1 tw f1 fc n B r.2 wn1) (mc, ms) := by
        refine go hX (fun pc => if pc = 92 then some 4 else if pc = 100 then some 4 else none) 40 ?_
        refine And.intro (fun z => ?_) (fun z => ?_)
        · rw [if_neg z] at hex
          exact nxt k T1 a1 S1 R1 L1 hex hI1 (by omega) hC1 ha
        · refine p_carryOut (c := r.2) hsp.1.1 hI1 (by omega) hC1 (fun S2 R2 L2 hC2 => ?_)
          exact p92 _ (doA r.2.1 r.2.2.2.2.2.2 a1) S2 R2 L2 rfl rfl z hC2
      have p60 : ∀ v : Int32, X 60 [some (.ref 0), some (.int (-1)), some (.int (nI k)), some (.int av)] [.int v] (PX a1 S1 R1 L1 tw f1 fc n B r.2 wn1) (mc, ms) := by
        intro v
        refine go hX (fun pc => if pc = 69 then some 4 else none) 40 ?_
        refine Tr.ap eX pX (c_byteAt (len := nI n) (B := B) hlen ?_) rfl rfl rfl rfl
        rw [hbyte]
        exact p69
      refine go hX (fun pc => if pc = 60 then some 4 else none) 40 ?_
      refine And.intro (fun z => absurd (show nI n ≤ av from z) (by rw [hav]; exact nI_ge hpn (by omega))) (fun _ => ?_)
      refine Tr.ap eF pF (c_take (c := c1) (len := nI n) (B := B) (w := w) (a := p) (n := kk) hlen hws hav (by omega) hw6 hkk hk3 ?_) rfl rfl rfl rfl
      rw [hav, hc2]
      rw [hav] at p60
      exact p60 r.1
  have p33 : fltF n b n (runE n b 32 32 0) = -1 → ∀ f1 wn1 c1, SvR T f1 wn1 (pushS a.2 a.1) → SC c1 → c1.2.1 = 0 → X 33 [some (.ref 0), some (.int (-1)), none, none] [] (PX (a.1, pushS a.2 a.1) S R L tw f1 fc n B c1 wn1) (mc, ms) := by
    intro hflt f1 wn1 c1 hV1 hS1 h0
    refine go hX (fun pc => if pc = 37 then some 4 else none) 40 ?_
    exact loop hflt f1 wn1 hV1 n 0 0 T 0 (a.1, pushS a.2 a.1) S R L c1 (by omega) rfl ⟨hS1, 0, fun z => absurd (h0.symm.trans z) (by decide)⟩ (by rw [flt_0 hT h0]; exact hflt) (ex_0 hT h0 hflt) hA.1 (Nat.le_refl _) hC rfl
  have p26 : fltF n b n (runE n b 32 32 0) = -1 → ∀ f1 wn1 c1, SvR T f1 wn1 (pushS a.2 a.1) → SC c1 → X 26 [some (.ref 0), some (.int (-1)), none, none] [] (PX (a.1, pushS a.2 a.1) S R L tw f1 fc n B c1 wn1) (mc, ms) := by
    intro hflt f1 wn1 c1 hV1 hS1
    refine go hX (fun pc => if pc = 33 then some 4 else none) 40 ?_
    refine Tr.ap eC pC (c_begin_ (c := c1) ?_) rfl rfl rfl rfl
    exact p33 hflt f1 wn1 (setPl c1 0) hV1 hS1 rfl
  have p22 : fltF n b n (runE n b 32 32 0) = -1 → ∀ c1, SC c1 → X 22 [some (.ref 0), some (.int (-1)), none, none] [] (PX a S R L tw f fc n B c1 wn) (mc, ms) := by
    intro hflt c1 hS1
    refine go hX (fun pc => if pc = 26 then some 4 else none) 40 ?_
    refine p_save (len := nI n) hA.1 hC rfl hl hV (fun f1 wn1 hV1 => ?_)
    exact p26 hflt f1 wn1 c1 hV1 hS1
  have p11 : ∀ c1, SC c1 → X 11 [some (.ref 0), none, none, none] [.int (fltF n b n (runE n b 32 32 0))] (PX a S R L tw f fc n B c1 wn) (mc, ms) := by
    intro c1 hS1
    by_cases hflt : fltF n b n (runE n b 32 32 0) = -1
    · rw [hflt]
      refine go hX (fun pc => if pc = 22 then some 4 else none) 40 ?_
      exact And.intro (fun _ => p22 hflt c1 hS1) (fun z => absurd rfl z)
    · have hrun : runA n b a = (-10 - fltF n b n (runE n b 32 32 0), a) := if_neg hflt
      rw [hrun] at hQ
      refine go hX (fun _ => none) 40 ?_
      refine And.intro (fun z => absurd z hflt) (fun _ => ?_)
      exact hQ _ ⟨S, R, L, tw, f, fc, B, c1, wn, rfl, hC.mono (Nat.le_add_right _ _), hl, hV.mono (Nat.le_add_right _ _), hS1, hT⟩
  refine go hX (fun pc => if pc = 11 then some 4 else none) 40 ?_
  refine Tr.ap eF pF (c_faultOf (c := c) (len := nI n) (B := B) hT hS (fun c1 hc1 => ?_)) rfl rfl rfl rfl
  rw [flt_0 hT (c := setPl c 0) rfl]
  exact p11 c1 hc1
