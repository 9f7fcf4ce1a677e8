/-! ===== PlateArm: digest ===== -/
variable {Q : AQ} {mc ms T n : Nat} {sc len : Int32} {S L B b : Nat → Int32} {R fc : Nat → Nat → Int32} {rest : AM} {s : Sg} {c : Scn} {f : Nat → Option Nat} {tw : Wd} {a : Kp} {M : AM}
def eG : List Nat := [10, 11]
def pG : List (Option Nat) := [none, none, none, none, none, none, none, none, none, none, some 0, some 1]
set_option maxRecDepth 20000 in
theorem p_mixQ {h0 : Int64} (hI : Inv T s) (hC : CS T s S R L) (hQ : Q (.inl (some (.long (mixQ s.1 (rqF s.2.1) s.2.1.length h0)))) (pwS sc s S R L rest)) : Tr tX9_mixRequests mc ms [.ref 0, .long h0] (pwS sc s S R L rest) Q := by
  have hm := hI.2.1
  refine Tr.of sX9_mixRequests (by decide +kernel) (Nat.le_of_ble_eq_true rfl) fun X hX => ?_
  have outer : ∀ (d i : Nat) (iv : Int32) (h1 : Int64) (x : Option Value), i + d = s.2.1.length → iv = nI i → h1 = mixQ s.1 (rqF s.2.1) i h0 → X 5 [some (.ref 0), some (.long h0), none, some (.long h1), none, some (.int iv), x] [] (pwS sc s S R L rest) (mc, ms) := by
    intro d
    induction d with
    | zero =>
      intro i iv h1 x hi hiv hh
      refine go hX (fun _ => none) 40 ?_
      refine And.intro (fun _ => ?_) (fun z => absurd (show nI s.2.1.length ≤ iv by rw [hiv, show s.2.1.length = i by omega]; exact Int32.le_refl _) z)
      rw [hh, show i = s.2.1.length by omega]
      exact hQ
    | succ d ih =>
      intro i iv h1 x hi hiv hh
      have v0 : vp_in iv 12 := by rw [hiv]; exact in_nI (by omega) (by decide)
      have v1 : iv.toNatClampNeg = i := by rw [hiv]; exact nI_c (by omega)
      have inner : ∀ (e j : Nat) (jv : Int32) (h2 : Int64), j + e = 6 → jv = nI j → h2 = mixN (toldV s.1 (rqF s.2.1 i)) j (mixH (mixQ s.1 (rqF s.2.1) i h0) (rqF s.2.1 i).1) → X 44 [some (.ref 0), some (.long h0), none, some (.long h2), none, some (.int iv), some (.int jv)] [] (pwS sc s S R L rest) (mc, ms) := by
        intro e
        induction e with
        | zero =>
          intro j jv h2 hj hjv hh2
          refine go hX (fun pc => if pc = 5 then some 7 else none) 40 ?_
          refine And.intro (fun _ => ?_) (fun z => absurd (show (6 : Int32) ≤ jv by rw [hjv, show j = 6 by omega]; exact Int32.le_refl _) z)
          refine ih (i + 1) (iv + 1) h2 _ (by omega) (by rw [hiv]; exact nI_1 i) ?_
          rw [hh2, show j = 6 by omega, mixQ_s]
        | succ e ihe =>
          intro j jv h2 hj hjv hh2
          refine go hX (fun pc => if pc = 44 then some 7 else none) 40 ?_
          refine And.intro (fun z => absurd z (by rw [hjv]; exact nI_ge (b := 6) (by omega) (by decide))) (fun _ => ?_)
          refine p_requestValue (k := i) (j := j) hC.2.1 hiv (by omega) hm hjv (by omega) ?_
          refine ihe (j + 1) (jv + 1) (mixH h2 (toldV s.1 (s.2.1.getD i d0) j)) (by omega) (by rw [hjv]; exact nI_1 j) ?_
          rw [hh2]
          exact mixN_s.symm
      refine go hX (fun pc => if pc = 44 then some 7 else none) 40 ?_
      refine And.intro (fun z => absurd (show nI s.2.1.length ≤ iv from z) (by rw [hiv]; exact nI_ge (by omega) (by omega))) (fun _ => ⟨v0, ?_⟩)
      rw [v1, show R 0 i = (rqF s.2.1 i).1 from rq_row hC.2.1 (show i < s.2.1.length by omega) (by decide)]
      refine inner 6 0 0 (mixH h1 (rqF s.2.1 i).1) (by decide) rfl ?_
      rw [hh, mixN_0]
  refine go hX (fun pc => if pc = 5 then some 7 else none) 40 ?_
  exact outer s.2.1.length 0 0 h0 none (by omega) rfl mixQ_0.symm
set_option maxRecDepth 20000 in
theorem p_mixL {h0 : Int64} (hI : Inv T s) (hT : T < 2 ^ 31) (hC : CS T s S R L) (hQ : Q (.inl (some (.long (mixL (rqF s.2.2) s.2.2.length h0)))) (pwS sc s S R L rest)) : Tr tX9_mixLog mc ms [.ref 0, .long h0] (pwS sc s S R L rest) Q := by
  obtain ⟨wn, t, c8, c7, cw, ct, cl⟩ := hC.2.2
  have hl10 := hI.rb.2
  refine Tr.of sX9_mixLog (by decide +kernel) (Nat.le_of_ble_eq_true rfl) fun X hX => ?_
  have outer : ∀ (d i : Nat) (iv : Int32) (h1 : Int64) (x : Option Value), i + d = s.2.2.length → iv = nI i → h1 = mixL (rqF s.2.2) i h0 → X 5 [some (.ref 0), some (.long h0), none, some (.long h1), none, some (.int iv), x] [] (pwS sc s S R L rest) (mc, ms) := by
    intro d
    induction d with
    | zero =>
      intro i iv h1 x hi hiv hh
      suffices p17 : X 17 [some (.ref 0), some (.long h0), none, some (.long h1), none, some (.int iv), x] [.int (nI s.2.2.length), .int iv] (pwS sc s S R L rest) (mc, ms) by
        refine go hX (fun pc => if pc = 17 then some 7 else none) 40 ?_
        refine Tr.ap eG pG (c_kept (L := L) ?_) rfl rfl rfl rfl
        rw [show (if (10 : Int32) < s.1 8 then 10 else s.1 8) = nI s.2.2.length by rw [c8, kept_eq (by omega), ← cl.1]]
        exact p17
      refine go hX (fun _ => none) 40 ?_
      refine And.intro (fun _ => ?_) (fun z => absurd (show nI s.2.2.length ≤ iv by rw [hiv, show s.2.2.length = i by omega]; exact Int32.le_refl _) z)
      rw [hh, show i = s.2.2.length by omega]
      exact hQ
    | succ d ih =>
      intro i iv h1 x hi hiv hh
      have hil : i < s.2.2.length := by omega
      have hlw := cl.1
      have inner : ∀ (e j : Nat) (jv : Int32) (h2 : Int64), j + e = 5 → jv = nI j → h2 = mixN (rf (rqF s.2.2 i)) j (mixL (rqF s.2.2) i h0) → X 23 [some (.ref 0), some (.long h0), none, some (.long h2), none, some (.int iv), some (.int jv)] [] (pwS sc s S R L rest) (mc, ms) := by
        intro e
        induction e with
        | zero =>
          intro j jv h2 hj hjv hh2
          refine go hX (fun pc => if pc = 5 then some 7 else none) 40 ?_
          refine And.intro (fun _ => ?_) (fun z => absurd (show (5 : Int32) ≤ jv by rw [hjv, show j = 5 by omega]; exact Int32.le_refl _) z)
          refine ih (i + 1) (iv + 1) h2 _ (by omega) (by rw [hiv]; exact nI_1 i) ?_
          rw [hh2, show j = 5 by omega, mixL_s]
        | succ e ihe =>
          intro j jv h2 hj hjv hh2
          have ix := ring_ix (w := wn) (b := i) (j := j) (by omega) (by omega) (by omega)
          rw [← hiv, ← hjv, ← c8] at ix
          have hv := cl.2 i _ (List.getElem?_eq_getElem hil) j (by omega)
          have he : rqF s.2.2 i = s.2.2[i] := by unfold rqF; rw [List.getD_eq_getElem?_getD, List.getElem?_eq_getElem hil]; rfl
          rw [← he] at hv
          refine go hX (fun pc => if pc = 23 then some 7 else none) 40 ?_
          refine And.intro (fun z => absurd z (by rw [hjv]; exact nI_ge (b := 5) (by omega) (by decide))) (fun _ => ?_)
          refine Tr.ap eG pG (c_valueOf (L := L) ix (by omega) ?_) rfl rfl rfl rfl
          rw [hv]
          refine ihe (j + 1) (jv + 1) (mixH h2 (rf (rqF s.2.2 i) j)) (by omega) (by rw [hjv]; exact nI_1 j) ?_
          rw [hh2]
          exact mixN_s.symm
      suffices p17 : X 17 [some (.ref 0), some (.long h0), none, some (.long h1), none, some (.int iv), x] [.int (nI s.2.2.length), .int iv] (pwS sc s S R L rest) (mc, ms) by
        refine go hX (fun pc => if pc = 17 then some 7 else none) 40 ?_
        refine Tr.ap eG pG (c_kept (L := L) ?_) rfl rfl rfl rfl
        rw [show (if (10 : Int32) < s.1 8 then 10 else s.1 8) = nI s.2.2.length by rw [c8, kept_eq (by omega), ← cl.1]]
        exact p17
      refine go hX (fun pc => if pc = 23 then some 7 else none) 40 ?_
      refine And.intro (fun z => absurd (show nI s.2.2.length ≤ iv from z) (by rw [hiv]; exact nI_ge hil (by omega))) (fun _ => ?_)
      exact inner 5 0 0 h1 (by decide) rfl (by rw [hh, mixN_0])
  refine go hX (fun pc => if pc = 5 then some 7 else none) 40 ?_
  exact outer s.2.2.length 0 0 h0 none (by omega) rfl mixL_0.symm
set_option maxRecDepth 20000 in
theorem p_mixW {h0 : Int64} (hI : Inv T s) (hC : CS T s S R L) (hF : FcOk s fc 4) (hQ : Q (.inl (some (.long (mixW s 4 h0)))) (p5 sc s S R L tw f fc len B c rest)) : Tr tX9_mixForecasts mc ms [.ref 0, .long h0] (p5 sc s S R L tw f fc len B c rest) Q := by
  refine Tr.of sX9_mixForecasts (by decide +kernel) (Nat.le_of_ble_eq_true rfl) fun X hX => ?_
  have outer : ∀ (d i : Nat) (iv : Int32) (h1 : Int64) (x : Option Value), i + d = 4 → iv = nI i → h1 = mixW s i h0 → X 5 [some (.ref 0), some (.long h0), none, some (.long h1), none, some (.int iv), x] [] (p5 sc s S R L tw f fc len B c rest) (mc, ms) := by
    intro d
    induction d with
    | zero =>
      intro i iv h1 x hi hiv hh
      refine go hX (fun _ => none) 40 ?_
      refine And.intro (fun _ => ?_) (fun z => absurd (show (4 : Int32) ≤ iv by rw [hiv, show i = 4 by omega]; exact Int32.le_refl _) z)
      rw [hh, show i = 4 by omega]
      exact hQ
    | succ d ih =>
      intro i iv h1 x hi hiv hh
      have v4 : vp_in iv 4 := by rw [hiv]; exact in_nI (by omega) (by decide)
      have w4 : iv.toNatClampNeg = i := by rw [hiv]; exact nI_c (by omega)
      have inner : ∀ (e j : Nat) (jv : Int32) (h2 : Int64), j + e = 3 → jv = nI j → h2 = mixN (valV s (nI i)) j (mixH (mixW s i h0) (numS s.2.1 (tgtS s.1 s.2.1 (nI i)))) → X 28 [some (.ref 0), some (.long h0), none, some (.long h2), none, some (.int iv), some (.int jv)] [] (p5 sc s S R L tw f fc len B c rest) (mc, ms) := by
        intro e
        induction e with
        | zero =>
          intro j jv h2 hj hjv hh2
          refine go hX (fun pc => if pc = 5 then some 7 else none) 40 ?_
          refine And.intro (fun _ => ?_) (fun z => absurd (show (2 : Int32) < jv by rw [hjv, show j = 3 by omega]; decide) z)
          refine ih (i + 1) (iv + 1) h2 _ (by omega) (by rw [hiv]; exact nI_1 i) ?_
          rw [hh2, show j = 3 by omega, mixW_s]
        | succ e ihe =>
          intro j jv h2 hj hjv hh2
          have v6 : vp_in jv 6 := by rw [hjv]; exact in_nI (by omega) (by decide)
          have w6 : jv.toNatClampNeg = j := by rw [hjv]; exact nI_c (by omega)
          have hv : fc i j = valV s (nI i) j := (hF i (by omega) j (by omega)).trans (if_neg (by omega))
          have nx := ihe (j + 1) (jv + 1) (mixH h2 (fc i j)) (by omega) (by rw [hjv]; exact nI_1 j) (by rw [hh2, hv]; exact mixN_s.symm)
          rw [← w6] at nx
          refine go hX (fun pc => if pc = 28 then some 7 else none) 40 ?_
          refine And.intro (fun z => absurd (show (2 : Int32) < jv from z) (by rw [hjv]; exact nI_nlt (a := 2) (by omega) (by decide))) (fun _ => ?_)
          have hi4 : i < 4 := by omega
          clear ih ihe hh hh2 hv
          match i, hi4, w4, nx with
          | 0, _, w4, nx => exact ⟨v4, 27, by rw [w4]; rfl, v6, nx⟩
          | 1, _, w4, nx => exact ⟨v4, 28, by rw [w4]; rfl, v6, nx⟩
          | 2, _, w4, nx => exact ⟨v4, 29, by rw [w4]; rfl, v6, nx⟩
          | 3, _, w4, nx => exact ⟨v4, 30, by rw [w4]; rfl, v6, nx⟩
      refine go hX (fun pc => if pc = 28 then some 7 else none) 40 ?_
      refine And.intro (fun z => absurd (show (4 : Int32) ≤ iv from z) (by rw [hiv]; exact nI_ge (b := 4) (by omega) (by decide))) (fun _ => ?_)
      have hw : inI iv 0 3 = true := by
        have g := nI_03 (k := i) (by omega)
        rw [← hiv] at g
        have e3 := litI.2.2.1
        exact inI_iff.mpr (by rw [i32_0, e3]; exact g)
      refine p_target0 hI hC hw ?_
      refine inner 3 0 0 (mixH h1 (numS s.2.1 (tgtS s.1 s.2.1 iv))) (by decide) rfl ?_
      rw [hh, hiv, mixN_0]
  refine go hX (fun pc => if pc = 5 then some 7 else none) 40 ?_
  exact outer 4 0 0 h0 none (by omega) rfl mixW_0.symm
theorem k_31 (x : Int32) : (1361086 : Int64) + x.toInt64 = mixH 43906 x := by
  have e : (1361086 : Int64) = 31 * 43906 := by decide
  rw [e]
  rfl
set_option maxRecDepth 20000 in
theorem p_digest (hA : AInv T a) (hTT : T + 12 < 2 ^ 31) (hW : CW T a n b M) (hQ : ∀ M1, CW T a n b M1 → Q (.inl (some (.long (dgA a.1 (nI a.2.length) (nI n))))) M1) : Tr tX9_digest mc ms [.ref 0] M Q := by
  obtain ⟨S, R, L, tw, f, fc, B, c, wn, rfl, hC, hl, hV, hS, hT⟩ := hW
  have hI := hA.1
  refine Tr.of sX9_digest (by decide +kernel) (Nat.le_of_ble_eq_true rfl) fun X hX => ?_
  have p107 : ∀ (h1 : Int64) (tw1 : Wd) (fc1 : Nat → Nat → Int32) (x : Option Value), h1 = mixH (mixH (dg5 a.1 (nI a.2.length) (nI n)) (nI (bestM a.1 4))) (heatV a.1 10) → X 110 [some (.ref 0), some (.long h1), none, x] [] (PX a S R L tw1 f fc1 n B c wn) (mc, ms) := by
    intro h1 tw1 fc1 x hh
    refine go hX (fun _ => none) 40 ?_
    refine p_widest hI hC ?_
    have hq := hQ _ (⟨S, R, L, tw1, f, fc1, B, c, wn, rfl, hC, hl, hV, hS, hT⟩ : CW T a n b (PX a S R L tw1 f fc1 n B c wn))
    rw [dgA_d, ← hh] at hq
    exact hq
  have p96 : ∀ (h1 : Int64) (tw1 : Wd) (fc1 : Nat → Nat → Int32) (x : Option Value), h1 = mixH (dg5 a.1 (nI a.2.length) (nI n)) (nI (bestM a.1 4)) → X 96 [some (.ref 0), some (.long h1), none, x] [] (PX a S R L tw1 f fc1 n B c wn) (mc, ms) := by
    intro h1 tw1 fc1 x hh
    refine go hX (fun pc => if pc = 110 then some 4 else none) 40 ?_
    refine p_heatIn0 (t := 10) hI hTT hC (by decide) (fun tw2 => ?_)
    exact p107 (mixH h1 (heatV a.1 10)) tw2 fc1 x (by rw [hh])
  have p84 : ∀ (h1 : Int64) (tw1 : Wd) (fc1 : Nat → Nat → Int32) (x : Option Value), FcOk a.1 fc1 4 → h1 = dg5 a.1 (nI a.2.length) (nI n) → X 84 [some (.ref 0), some (.long h1), none, x] [] (PX a S R L tw1 f fc1 n B c wn) (mc, ms) := by
    intro h1 tw1 fc1 x hF hh
    refine go hX (fun pc => if pc = 96 then some 4 else none) 40 ?_
    refine p_bestF hI hF ?_
    exact p96 (mixH h1 (nI (bestM a.1 4))) tw1 fc1 x (by rw [hh])
  have p78 : ∀ (h1 : Int64) (tw1 : Wd) (fc1 : Nat → Nat → Int32) (x : Option Value), FcOk a.1 fc1 4 → h1 = dg4 a.1 (nI a.2.length) (nI n) → X 78 [some (.ref 0), some (.long h1), none, x] [] (PX a S R L tw1 f fc1 n B c wn) (mc, ms) := by
    intro h1 tw1 fc1 x hF hh
    refine go hX (fun pc => if pc = 84 then some 4 else none) 40 ?_
    refine p_mixW hI hC hF ?_
    exact p84 (mixW a.1 4 h1) tw1 fc1 x hF (by rw [hh, dg5_d])
  have p74 : ∀ (h1 : Int64) (x : Option Value), h1 = dg4 a.1 (nI a.2.length) (nI n) → X 74 [some (.ref 0), some (.long h1), none, x] [] (PX a S R L tw f fc n B c wn) (mc, ms) := by
    intro h1 x hh
    refine go hX (fun pc => if pc = 78 then some 4 else none) 40 ?_
    refine p_forecastAll hI hTT hC (fun tw1 fc1 hF => ?_)
    exact p78 h1 tw1 fc1 x hF hh
  have p70 : ∀ (h1 h2 : Int64) (x : Option Value), h1 = dg3 a.1 (nI a.2.length) (nI n) → X 70 [some (.ref 0), some (.long h2), none, x] [.long h1, .ref 0] (PX a S R L tw f fc n B c wn) (mc, ms) := by
    intro h1 h2 x hh
    refine go hX (fun pc => if pc = 74 then some 4 else none) 40 ?_
    refine p_mixL hI (by omega) hC ?_
    exact p74 (mixL (rqF a.1.2.2) a.1.2.2.length h1) x (by rw [hh, dg4_d])
  have p64 : ∀ (h1 : Int64) (x : Option Value), h1 = dg2 a.1 (nI a.2.length) (nI n) → X 64 [some (.ref 0), some (.long h1), none, x] [] (PX a S R L tw f fc n B c wn) (mc, ms) := by
    intro h1 x hh
    refine go hX (fun pc => if pc = 70 then some 4 else none) 40 ?_
    refine p_mixQ hI hC ?_
    exact p70 (mixQ a.1.1 (rqF a.1.2.1) a.1.2.1.length h1) h1 x (by rw [hh, dg3_d])
  have s39 : ∀ (d i : Nat) (iv : Int32) (h1 : Int64), i + d = 6 → iv = nI i → h1 = mixN (armV a.1.1) i (dg1 a.1 (nI a.2.length) (nI n)) → X 39 [some (.ref 0), some (.long h1), none, some (.int iv)] [] (PX a S R L tw f fc n B c wn) (mc, ms) := by
    intro d
    induction d with
    | zero =>
      intro i iv h1 hi hiv hh
      refine go hX (fun pc => if pc = 64 then some 4 else none) 40 ?_
      refine And.intro (fun _ => ?_) (fun z => absurd (show (6 : Int32) ≤ iv by rw [hiv, show i = 6 by omega]; exact Int32.le_refl _) z)
      exact p64 h1 _ (by rw [hh, show i = 6 by omega, dg2_d])
    | succ d ih =>
      intro i iv h1 hi hiv hh
      refine go hX (fun pc => if pc = 39 then some 4 else none) 40 ?_
      refine And.intro (fun z => absurd (show (6 : Int32) ≤ iv from z) (by rw [hiv]; exact nI_ge (b := 6) (by omega) (by decide))) (fun _ => ?_)
      refine p_arm0 (j := i) hI hiv (by omega) ?_
      refine ih (i + 1) (iv + 1) (mixH h1 (armV a.1.1 i)) (by omega) (by rw [hiv]; exact nI_1 i) ?_
      rw [hh]
      exact mixN_s.symm
  have s12 : ∀ (d i : Nat) (iv : Int32) (h1 : Int64), i + d = 18 → iv = nI i → h1 = mixN (wholeV a.1 (nI n)) i (mixH 43906 (nI a.2.length)) → X 12 [some (.ref 0), some (.long h1), none, some (.int iv)] [] (PX a S R L tw f fc n B c wn) (mc, ms) := by
    intro d
    induction d with
    | zero =>
      intro i iv h1 hi hiv hh
      refine go hX (fun pc => if pc = 39 then some 4 else none) 40 ?_
      refine And.intro (fun _ => ?_) (fun z => absurd (show (18 : Int32) ≤ iv by rw [hiv, show i = 18 by omega]; exact Int32.le_refl _) z)
      exact s39 6 0 0 h1 (by decide) rfl (by rw [hh, show i = 18 by omega, mixN_0, dg1_d])
    | succ d ih =>
      intro i iv h1 hi hiv hh
      refine go hX (fun pc => if pc = 12 then some 4 else none) 40 ?_
      refine And.intro (fun z => absurd (show (18 : Int32) ≤ iv from z) (by rw [hiv]; exact nI_ge (b := 18) (by omega) (by decide))) (fun _ => ?_)
      refine p_whole0 (j := i) hC hiv (by omega) ?_
      refine ih (i + 1) (iv + 1) (mixH h1 (wholeV a.1 (nI n) i)) (by omega) (by rw [hiv]; exact nI_1 i) ?_
      rw [hh]
      exact mixN_s.symm
  refine go hX (fun pc => if pc = 12 then some 4 else none) 40 ?_
  exact s12 18 0 0 _ (by decide) rfl (by rw [mixN_0]; exact k_31 _)
