/-! ===== the law's loop: the calls of each kind ===== -/
variable {X : WK} {Q : AQ} {Ls T cc ss : Nat} {xs : Nat → Int32} {a : Kp} {tx : List Int32} {W : AM} {i : Int32} {x5 x6 : Option Value}
set_option maxRecDepth 20000 in
theorem lc_set (hX : Clo (kL_law Ls xs) Q X) (v1 : vp_in (i + 1) Ls) (v2 : vp_in (i + 2) Ls) (v3 : vp_in (i + 3) Ls) (hW : LW T a tx W) (hT : T + 200 < 2 ^ 31) (hn : ∀ T1 a1 tx1 W1, LW T1 a1 tx1 W1 → T1 ≤ T + 151 → ∀ x5 x6, X 1278 (LL i x5 x6) [] W1 (cc, ss)) : X 348 (LL i x5 x6) [] W (cc + 1, ss + 6) := by
  obtain ⟨Mc, g, P, H, X0, G, f, h, g1, rfl, hM, hC, hA, hL⟩ := hW
  have pD : ∀ sc s S R L tw fw fc len B c wn g P H X0 G f h g2, mcl (p5 sc s S R L tw fw fc len B c (wins wn)) → CW T (setA true (xs (i + 1).toNatClampNeg) (xs (i + 2).toNatClampNeg) a).2.2 tx.length (fun k => tx.getD k 0) (p5 sc s S R L tw fw fc len B c (wins wn)) → LM (setA true (xs (i + 1).toNatClampNeg) (xs (i + 2).toNatClampNeg) a).2.2 tx g P X0 f → f 3 = (setA true (xs (i + 1).toNatClampNeg) (xs (i + 2).toNatClampNeg) a).1 → ((setA true (xs (i + 1).toNatClampNeg) (xs (i + 2).toNatClampNeg) a).1 = 0 → g2 0 = (setA true (xs (i + 1).toNatClampNeg) (xs (i + 2).toNatClampNeg) a).2.1.toInt64) → X 389 (LL i (some (.int (setA true (xs (i + 1).toNatClampNeg) (xs (i + 2).toNatClampNeg) a).1)) (some (.int (setA true (xs (i + 1).toNatClampNeg) (xs (i + 2).toNatClampNeg) a).2.1))) [.int (f 3)] (p5 sc s S R L tw fw fc len B c (wins wn) ++ mdU g P H X0 G f h g2) (cc, ss) := by
    intro sc s S R L tw fw fc len B c wn g P H X0 G f h g2 hM hC hL h3 hg
    have hend : X 1278 (LL i (some (.int (setA true (xs (i + 1).toNatClampNeg) (xs (i + 2).toNatClampNeg) a).1)) (some (.int (setA true (xs (i + 1).toNatClampNeg) (xs (i + 2).toNatClampNeg) a).2.1))) [] (p5 sc s S R L tw fw fc len B c (wins wn) ++ mdU g P H X0 G f h g2) (cc, ss) := hn T (setA true (xs (i + 1).toNatClampNeg) (xs (i + 2).toNatClampNeg) a).2.2 tx _ ⟨_, _, _, _, _, _, _, _, _, rfl, hM, hC, ai_set hA, hL⟩ (by omega) _ _
    refine go hX (fun pc => if pc = 1278 then some 7 else none) 40 ?_
    refine And.intro (fun _ => ?_) (fun z => absurd h3 z)
    refine And.intro (fun _ => hend) (fun hk0 => ⟨in_lit (by decide), And.intro (fun _ => hend) (fun z => absurd (lgc (hg hk0)) z)⟩)
  have pC : ∀ sc s S R L tw fw fc len B c wn g P H X0 G f h g2, mcl (p5 sc s S R L tw fw fc len B c (wins wn)) → CW T (setA true (xs (i + 1).toNatClampNeg) (xs (i + 2).toNatClampNeg) a).2.2 tx.length (fun k => tx.getD k 0) (p5 sc s S R L tw fw fc len B c (wins wn)) → LM (setA true (xs (i + 1).toNatClampNeg) (xs (i + 2).toNatClampNeg) a).2.2 tx g P X0 f → f 3 = (setA true (xs (i + 1).toNatClampNeg) (xs (i + 2).toNatClampNeg) a).1 → ((setA true (xs (i + 1).toNatClampNeg) (xs (i + 2).toNatClampNeg) a).1 = 0 → g2 0 = (setA true (xs (i + 1).toNatClampNeg) (xs (i + 2).toNatClampNeg) a).2.1.toInt64) → X 383 (LL i (some (.int (setA true (xs (i + 1).toNatClampNeg) (xs (i + 2).toNatClampNeg) a).1)) x6) [.int (setA true (xs (i + 1).toNatClampNeg) (xs (i + 2).toNatClampNeg) a).2.1] (p5 sc s S R L tw fw fc len B c (wins wn) ++ mdU g P H X0 G f h g2) (cc, ss) := by
    intro sc s S R L tw fw fc len B c wn g P H X0 G f h g2 hM hC hL h3 hg
    refine go hX (fun pc => if pc = 389 then some 7 else none) 40 ?_
    refine Tr.ap eM pM (m_thrown (g := g) (P := P) (H := H) (X := X0) (G := G) (f := f) (h := h) ?_) rfl rfl rfl rfl
    exact pD sc s S R L tw fw fc len B c wn g P H X0 G f h g2 hM hC hL h3 hg
  have pB : ∀ sc s S R L tw fw fc len B c wn g2, mcl (p5 sc s S R L tw fw fc len B c (wins wn)) → CW T (setA true (xs (i + 1).toNatClampNeg) (xs (i + 2).toNatClampNeg) a).2.2 tx.length (fun k => tx.getD k 0) (p5 sc s S R L tw fw fc len B c (wins wn)) → ((setA true (xs (i + 1).toNatClampNeg) (xs (i + 2).toNatClampNeg) a).1 = 0 → g2 0 = (setA true (xs (i + 1).toNatClampNeg) (xs (i + 2).toNatClampNeg) a).2.1.toInt64) → X 365 (LL i x5 x6) [.int (setA true (xs (i + 1).toNatClampNeg) (xs (i + 2).toNatClampNeg) a).1] (p5 sc s S R L tw fw fc len B c (wins wn) ++ mdU g P H X0 G f h g2) (cc, ss) := by
    intro sc s S R L tw fw fc len B c wn g2 hM hC hg
    refine go hX (fun pc => if pc = 383 then some 7 else none) 40 ?_
    refine ⟨v1, v2, ?_⟩
    refine Tr.ap eM pM (mc_set (g := g) (P := P) (H := H) (X := X0) (G := G) (f := f) (h := h) hA hL (fun g' P' H' X' G' f' h' hL' h3' => ?_)) rfl rfl rfl rfl
    exact pC sc s S R L tw fw fc len B c wn g' P' H' X' G' f' h' g2 hM hC hL' h3' hg
  obtain ⟨sc, s, S, R, L, tw, fw, fc, len, B, c, wn, rfl⟩ := cw_p5 Mc hC
  refine go hX (fun pc => if pc = 365 then some 7 else none) 40 ?_
  refine ⟨v1, v2, ?_⟩
  refine h_set (P := CW T (setA true (xs (i + 1).toNatClampNeg) (xs (i + 2).toNatClampNeg) a).2.2 tx.length (fun k => tx.getD k 0)) cw_p5 hM (oc_set hA hC) k_set (fun E M z => z) (fun M1 g2 hC1 hM1 hg => ?_)
  obtain ⟨sc, s, S, R, L, tw, fw, fc, len, B, c, wn, rfl⟩ := cw_p5 M1 hC1
  exact pB sc s S R L tw fw fc len B c wn g2 hM1 hC1 hg
set_option maxRecDepth 20000 in
theorem lc_pass (hX : Clo (kL_law Ls xs) Q X) (v1 : vp_in (i + 1) Ls) (v2 : vp_in (i + 2) Ls) (v3 : vp_in (i + 3) Ls) (hW : LW T a tx W) (hT : T + 200 < 2 ^ 31) (hn : ∀ T1 a1 tx1 W1, LW T1 a1 tx1 W1 → T1 ≤ T + 151 → ∀ x5 x6, X 1278 (LL i x5 x6) [] W1 (cc, ss)) : X 416 (LL i x5 x6) [] W (cc + 1, ss + 6) := by
  obtain ⟨Mc, g, P, H, X0, G, f, h, g1, rfl, hM, hC, hA, hL⟩ := hW
  have pD : ∀ sc s S R L tw fw fc len B c wn g P H X0 G f h g2, mcl (p5 sc s S R L tw fw fc len B c (wins wn)) → CW T (passA true (xs (i + 1).toNatClampNeg) a).2.2 tx.length (fun k => tx.getD k 0) (p5 sc s S R L tw fw fc len B c (wins wn)) → LM (passA true (xs (i + 1).toNatClampNeg) a).2.2 tx g P X0 f → f 3 = (passA true (xs (i + 1).toNatClampNeg) a).1 → ((passA true (xs (i + 1).toNatClampNeg) a).1 = 0 → g2 0 = (passA true (xs (i + 1).toNatClampNeg) a).2.1.toInt64) → X 445 (LL i (some (.int (passA true (xs (i + 1).toNatClampNeg) a).1)) (some (.int (passA true (xs (i + 1).toNatClampNeg) a).2.1))) [.int (f 3)] (p5 sc s S R L tw fw fc len B c (wins wn) ++ mdU g P H X0 G f h g2) (cc, ss) := by
    intro sc s S R L tw fw fc len B c wn g P H X0 G f h g2 hM hC hL h3 hg
    have hend : X 1278 (LL i (some (.int (passA true (xs (i + 1).toNatClampNeg) a).1)) (some (.int (passA true (xs (i + 1).toNatClampNeg) a).2.1))) [] (p5 sc s S R L tw fw fc len B c (wins wn) ++ mdU g P H X0 G f h g2) (cc, ss) := hn T (passA true (xs (i + 1).toNatClampNeg) a).2.2 tx _ ⟨_, _, _, _, _, _, _, _, _, rfl, hM, hC, ai_pass hA, hL⟩ (by omega) _ _
    refine go hX (fun pc => if pc = 1278 then some 7 else none) 40 ?_
    refine And.intro (fun _ => ?_) (fun z => absurd h3 z)
    refine And.intro (fun _ => hend) (fun hk0 => ⟨in_lit (by decide), And.intro (fun _ => hend) (fun z => absurd (lgc (hg hk0)) z)⟩)
  have pC : ∀ sc s S R L tw fw fc len B c wn g P H X0 G f h g2, mcl (p5 sc s S R L tw fw fc len B c (wins wn)) → CW T (passA true (xs (i + 1).toNatClampNeg) a).2.2 tx.length (fun k => tx.getD k 0) (p5 sc s S R L tw fw fc len B c (wins wn)) → LM (passA true (xs (i + 1).toNatClampNeg) a).2.2 tx g P X0 f → f 3 = (passA true (xs (i + 1).toNatClampNeg) a).1 → ((passA true (xs (i + 1).toNatClampNeg) a).1 = 0 → g2 0 = (passA true (xs (i + 1).toNatClampNeg) a).2.1.toInt64) → X 439 (LL i (some (.int (passA true (xs (i + 1).toNatClampNeg) a).1)) x6) [.int (passA true (xs (i + 1).toNatClampNeg) a).2.1] (p5 sc s S R L tw fw fc len B c (wins wn) ++ mdU g P H X0 G f h g2) (cc, ss) := by
    intro sc s S R L tw fw fc len B c wn g P H X0 G f h g2 hM hC hL h3 hg
    refine go hX (fun pc => if pc = 445 then some 7 else none) 40 ?_
    refine Tr.ap eM pM (m_thrown (g := g) (P := P) (H := H) (X := X0) (G := G) (f := f) (h := h) ?_) rfl rfl rfl rfl
    exact pD sc s S R L tw fw fc len B c wn g P H X0 G f h g2 hM hC hL h3 hg
  have pB : ∀ sc s S R L tw fw fc len B c wn g2, mcl (p5 sc s S R L tw fw fc len B c (wins wn)) → CW T (passA true (xs (i + 1).toNatClampNeg) a).2.2 tx.length (fun k => tx.getD k 0) (p5 sc s S R L tw fw fc len B c (wins wn)) → ((passA true (xs (i + 1).toNatClampNeg) a).1 = 0 → g2 0 = (passA true (xs (i + 1).toNatClampNeg) a).2.1.toInt64) → X 427 (LL i x5 x6) [.int (passA true (xs (i + 1).toNatClampNeg) a).1] (p5 sc s S R L tw fw fc len B c (wins wn) ++ mdU g P H X0 G f h g2) (cc, ss) := by
    intro sc s S R L tw fw fc len B c wn g2 hM hC hg
    refine go hX (fun pc => if pc = 439 then some 7 else none) 40 ?_
    refine ⟨v1, ?_⟩
    refine Tr.ap eM pM (mc_pass (g := g) (P := P) (H := H) (X := X0) (G := G) (f := f) (h := h) hA hL (fun g' P' H' X' G' f' h' hL' h3' => ?_)) rfl rfl rfl rfl
    exact pC sc s S R L tw fw fc len B c wn g' P' H' X' G' f' h' g2 hM hC hL' h3' hg
  obtain ⟨sc, s, S, R, L, tw, fw, fc, len, B, c, wn, rfl⟩ := cw_p5 Mc hC
  refine go hX (fun pc => if pc = 427 then some 7 else none) 40 ?_
  refine ⟨v1, ?_⟩
  refine h_pass (P := CW T (passA true (xs (i + 1).toNatClampNeg) a).2.2 tx.length (fun k => tx.getD k 0)) cw_p5 hM (oc_pass hA (by omega) hC) k_pass (fun E M z => z) (fun M1 g2 hC1 hM1 hg => ?_)
  obtain ⟨sc, s, S, R, L, tw, fw, fc, len, B, c, wn, rfl⟩ := cw_p5 M1 hC1
  exact pB sc s S R L tw fw fc len B c wn g2 hM1 hC1 hg
set_option maxRecDepth 20000 in
theorem lc_finish (hX : Clo (kL_law Ls xs) Q X) (v1 : vp_in (i + 1) Ls) (v2 : vp_in (i + 2) Ls) (v3 : vp_in (i + 3) Ls) (hW : LW T a tx W) (hT : T + 200 < 2 ^ 31) (hn : ∀ T1 a1 tx1 W1, LW T1 a1 tx1 W1 → T1 ≤ T + 151 → ∀ x5 x6, X 1278 (LL i x5 x6) [] W1 (cc, ss)) : X 472 (LL i x5 x6) [] W (cc + 1, ss + 6) := by
  obtain ⟨Mc, g, P, H, X0, G, f, h, g1, rfl, hM, hC, hA, hL⟩ := hW
  have pD : ∀ sc s S R L tw fw fc len B c wn g P H X0 G f h g2, mcl (p5 sc s S R L tw fw fc len B c (wins wn)) → CW T (finishA true a).2.2 tx.length (fun k => tx.getD k 0) (p5 sc s S R L tw fw fc len B c (wins wn)) → LM (finishA true a).2.2 tx g P X0 f → f 3 = (finishA true a).1 → ((finishA true a).1 = 0 → g2 0 = (finishA true a).2.1.toInt64) → X 489 (LL i (some (.int (finishA true a).1)) (some (.int (finishA true a).2.1))) [.int (f 3)] (p5 sc s S R L tw fw fc len B c (wins wn) ++ mdU g P H X0 G f h g2) (cc, ss) := by
    intro sc s S R L tw fw fc len B c wn g P H X0 G f h g2 hM hC hL h3 hg
    have hend : X 1278 (LL i (some (.int (finishA true a).1)) (some (.int (finishA true a).2.1))) [] (p5 sc s S R L tw fw fc len B c (wins wn) ++ mdU g P H X0 G f h g2) (cc, ss) := hn T (finishA true a).2.2 tx _ ⟨_, _, _, _, _, _, _, _, _, rfl, hM, hC, ai_finish hA, hL⟩ (by omega) _ _
    refine go hX (fun pc => if pc = 1278 then some 7 else none) 40 ?_
    refine And.intro (fun _ => ?_) (fun z => absurd h3 z)
    refine And.intro (fun _ => hend) (fun hk0 => ⟨in_lit (by decide), And.intro (fun _ => hend) (fun z => absurd (lgc (hg hk0)) z)⟩)
  have pC : ∀ sc s S R L tw fw fc len B c wn g P H X0 G f h g2, mcl (p5 sc s S R L tw fw fc len B c (wins wn)) → CW T (finishA true a).2.2 tx.length (fun k => tx.getD k 0) (p5 sc s S R L tw fw fc len B c (wins wn)) → LM (finishA true a).2.2 tx g P X0 f → f 3 = (finishA true a).1 → ((finishA true a).1 = 0 → g2 0 = (finishA true a).2.1.toInt64) → X 483 (LL i (some (.int (finishA true a).1)) x6) [.int (finishA true a).2.1] (p5 sc s S R L tw fw fc len B c (wins wn) ++ mdU g P H X0 G f h g2) (cc, ss) := by
    intro sc s S R L tw fw fc len B c wn g P H X0 G f h g2 hM hC hL h3 hg
    refine go hX (fun pc => if pc = 489 then some 7 else none) 40 ?_
    refine Tr.ap eM pM (m_thrown (g := g) (P := P) (H := H) (X := X0) (G := G) (f := f) (h := h) ?_) rfl rfl rfl rfl
    exact pD sc s S R L tw fw fc len B c wn g P H X0 G f h g2 hM hC hL h3 hg
  have pB : ∀ sc s S R L tw fw fc len B c wn g2, mcl (p5 sc s S R L tw fw fc len B c (wins wn)) → CW T (finishA true a).2.2 tx.length (fun k => tx.getD k 0) (p5 sc s S R L tw fw fc len B c (wins wn)) → ((finishA true a).1 = 0 → g2 0 = (finishA true a).2.1.toInt64) → X 477 (LL i x5 x6) [.int (finishA true a).1] (p5 sc s S R L tw fw fc len B c (wins wn) ++ mdU g P H X0 G f h g2) (cc, ss) := by
    intro sc s S R L tw fw fc len B c wn g2 hM hC hg
    refine go hX (fun pc => if pc = 483 then some 7 else none) 40 ?_
    refine Tr.ap eM pM (mc_finish (g := g) (P := P) (H := H) (X := X0) (G := G) (f := f) (h := h) hA hL (fun g' P' H' X' G' f' h' hL' h3' => ?_)) rfl rfl rfl rfl
    exact pC sc s S R L tw fw fc len B c wn g' P' H' X' G' f' h' g2 hM hC hL' h3' hg
  obtain ⟨sc, s, S, R, L, tw, fw, fc, len, B, c, wn, rfl⟩ := cw_p5 Mc hC
  refine go hX (fun pc => if pc = 477 then some 7 else none) 40 ?_
  refine h_finish (P := CW T (finishA true a).2.2 tx.length (fun k => tx.getD k 0)) cw_p5 hM (oc_finish hA (by omega) hC) k_finish (fun E M z => z) (fun M1 g2 hC1 hM1 hg => ?_)
  obtain ⟨sc, s, S, R, L, tw, fw, fc, len, B, c, wn, rfl⟩ := cw_p5 M1 hC1
  exact pB sc s S R L tw fw fc len B c wn g2 hM1 hC1 hg
