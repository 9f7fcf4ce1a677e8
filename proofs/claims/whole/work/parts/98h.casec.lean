/-! ===== the law's loop: the calls of each kind ===== -/
variable {X : WK} {Q : AQ} {Ls T cc ss : Nat} {xs : Nat → Int32} {a : Kp} {tx : List Int32} {W : AM} {i : Int32} {x5 x6 : Option Value}
set_option maxRecDepth 20000 in
theorem lc_requestOf (hX : Clo (kL_law Ls xs) Q X) (v1 : vp_in (i + 1) Ls) (v2 : vp_in (i + 2) Ls) (v3 : vp_in (i + 3) Ls) (hW : LW T a tx W) (hT : T + 200 < 2 ^ 31) (hn : ∀ T1 a1 tx1 W1, LW T1 a1 tx1 W1 → T1 ≤ T + 151 → ∀ x5 x6, X 1278 (LL i x5 x6) [] W1 (cc, ss)) : X 516 (LL i x5 x6) [] W (cc + 1, ss + 6) := by
  obtain ⟨Mc, g, P, H, X0, G, f, h, g1, rfl, hM, hC, hA, hL⟩ := hW
  have pD : ∀ sc s S R L tw fw fc len B c wn g P H X0 G f h g2, mcl (p5 sc s S R L tw fw fc len B c (wins wn)) → CW T a tx.length (fun k => tx.getD k 0) (p5 sc s S R L tw fw fc len B c (wins wn)) → LM a tx g P X0 f → f 3 = (requestOfA (xs (i + 1).toNatClampNeg) (xs (i + 2).toNatClampNeg) a.1).1 → ((requestOfA (xs (i + 1).toNatClampNeg) (xs (i + 2).toNatClampNeg) a.1).1 = 0 → g2 0 = (requestOfA (xs (i + 1).toNatClampNeg) (xs (i + 2).toNatClampNeg) a.1).2.toInt64) → X 557 (LL i (some (.int (requestOfA (xs (i + 1).toNatClampNeg) (xs (i + 2).toNatClampNeg) a.1).1)) (some (.int (requestOfA (xs (i + 1).toNatClampNeg) (xs (i + 2).toNatClampNeg) a.1).2))) [.int (f 3)] (p5 sc s S R L tw fw fc len B c (wins wn) ++ mdU g P H X0 G f h g2) (cc, ss) := by
    intro sc s S R L tw fw fc len B c wn g P H X0 G f h g2 hM hC hL h3 hg
    have hend : X 1278 (LL i (some (.int (requestOfA (xs (i + 1).toNatClampNeg) (xs (i + 2).toNatClampNeg) a.1).1)) (some (.int (requestOfA (xs (i + 1).toNatClampNeg) (xs (i + 2).toNatClampNeg) a.1).2))) [] (p5 sc s S R L tw fw fc len B c (wins wn) ++ mdU g P H X0 G f h g2) (cc, ss) := hn T a tx _ ⟨_, _, _, _, _, _, _, _, _, rfl, hM, hC, hA, hL⟩ (by omega) _ _
    refine go hX (fun pc => if pc = 1278 then some 7 else none) 40 ?_
    refine And.intro (fun _ => ?_) (fun z => absurd h3 z)
    refine And.intro (fun _ => hend) (fun hk0 => ⟨in_lit (by decide), And.intro (fun _ => hend) (fun z => absurd (lgc (hg hk0)) z)⟩)
  have pC : ∀ sc s S R L tw fw fc len B c wn g P H X0 G f h g2, mcl (p5 sc s S R L tw fw fc len B c (wins wn)) → CW T a tx.length (fun k => tx.getD k 0) (p5 sc s S R L tw fw fc len B c (wins wn)) → LM a tx g P X0 f → f 3 = (requestOfA (xs (i + 1).toNatClampNeg) (xs (i + 2).toNatClampNeg) a.1).1 → ((requestOfA (xs (i + 1).toNatClampNeg) (xs (i + 2).toNatClampNeg) a.1).1 = 0 → g2 0 = (requestOfA (xs (i + 1).toNatClampNeg) (xs (i + 2).toNatClampNeg) a.1).2.toInt64) → X 551 (LL i (some (.int (requestOfA (xs (i + 1).toNatClampNeg) (xs (i + 2).toNatClampNeg) a.1).1)) x6) [.int (requestOfA (xs (i + 1).toNatClampNeg) (xs (i + 2).toNatClampNeg) a.1).2] (p5 sc s S R L tw fw fc len B c (wins wn) ++ mdU g P H X0 G f h g2) (cc, ss) := by
    intro sc s S R L tw fw fc len B c wn g P H X0 G f h g2 hM hC hL h3 hg
    refine go hX (fun pc => if pc = 557 then some 7 else none) 40 ?_
    refine Tr.ap eM pM (m_thrown (g := g) (P := P) (H := H) (X := X0) (G := G) (f := f) (h := h) ?_) rfl rfl rfl rfl
    exact pD sc s S R L tw fw fc len B c wn g P H X0 G f h g2 hM hC hL h3 hg
  have pB : ∀ sc s S R L tw fw fc len B c wn g2, mcl (p5 sc s S R L tw fw fc len B c (wins wn)) → CW T a tx.length (fun k => tx.getD k 0) (p5 sc s S R L tw fw fc len B c (wins wn)) → ((requestOfA (xs (i + 1).toNatClampNeg) (xs (i + 2).toNatClampNeg) a.1).1 = 0 → g2 0 = (requestOfA (xs (i + 1).toNatClampNeg) (xs (i + 2).toNatClampNeg) a.1).2.toInt64) → X 533 (LL i x5 x6) [.int (requestOfA (xs (i + 1).toNatClampNeg) (xs (i + 2).toNatClampNeg) a.1).1] (p5 sc s S R L tw fw fc len B c (wins wn) ++ mdU g P H X0 G f h g2) (cc, ss) := by
    intro sc s S R L tw fw fc len B c wn g2 hM hC hg
    refine go hX (fun pc => if pc = 551 then some 7 else none) 40 ?_
    refine ⟨v1, v2, ?_⟩
    refine Tr.ap eM pM (mc_requestOf (g := g) (P := P) (H := H) (X := X0) (G := G) (f := f) (h := h) hA hL (fun g' P' H' X' G' f' h' hL' h3' => ?_)) rfl rfl rfl rfl
    exact pC sc s S R L tw fw fc len B c wn g' P' H' X' G' f' h' g2 hM hC hL' h3' hg
  obtain ⟨sc, s, S, R, L, tw, fw, fc, len, B, c, wn, rfl⟩ := cw_p5 Mc hC
  refine go hX (fun pc => if pc = 533 then some 7 else none) 40 ?_
  refine ⟨v1, v2, ?_⟩
  refine h_requestOf (P := CW T a tx.length (fun k => tx.getD k 0)) cw_p5 hM (oc_requestOf hA hC) k_requestOf (fun E M z => z) (fun M1 g2 hC1 hM1 hg => ?_)
  obtain ⟨sc, s, S, R, L, tw, fw, fc, len, B, c, wn, rfl⟩ := cw_p5 M1 hC1
  exact pB sc s S R L tw fw fc len B c wn g2 hM1 hC1 hg
set_option maxRecDepth 20000 in
theorem lc_requestAt (hX : Clo (kL_law Ls xs) Q X) (v1 : vp_in (i + 1) Ls) (v2 : vp_in (i + 2) Ls) (v3 : vp_in (i + 3) Ls) (hW : LW T a tx W) (hT : T + 200 < 2 ^ 31) (hn : ∀ T1 a1 tx1 W1, LW T1 a1 tx1 W1 → T1 ≤ T + 151 → ∀ x5 x6, X 1278 (LL i x5 x6) [] W1 (cc, ss)) : X 584 (LL i x5 x6) [] W (cc + 1, ss + 6) := by
  obtain ⟨Mc, g, P, H, X0, G, f, h, g1, rfl, hM, hC, hA, hL⟩ := hW
  have pD : ∀ sc s S R L tw fw fc len B c wn g P H X0 G f h g2, mcl (p5 sc s S R L tw fw fc len B c (wins wn)) → CW T a tx.length (fun k => tx.getD k 0) (p5 sc s S R L tw fw fc len B c (wins wn)) → LM a tx g P X0 f → f 3 = (requestAtA (xs (i + 1).toNatClampNeg) a.1).1 → ((requestAtA (xs (i + 1).toNatClampNeg) a.1).1 = 0 → g2 0 = (requestAtA (xs (i + 1).toNatClampNeg) a.1).2.toInt64) → X 613 (LL i (some (.int (requestAtA (xs (i + 1).toNatClampNeg) a.1).1)) (some (.int (requestAtA (xs (i + 1).toNatClampNeg) a.1).2))) [.int (f 3)] (p5 sc s S R L tw fw fc len B c (wins wn) ++ mdU g P H X0 G f h g2) (cc, ss) := by
    intro sc s S R L tw fw fc len B c wn g P H X0 G f h g2 hM hC hL h3 hg
    have hend : X 1278 (LL i (some (.int (requestAtA (xs (i + 1).toNatClampNeg) a.1).1)) (some (.int (requestAtA (xs (i + 1).toNatClampNeg) a.1).2))) [] (p5 sc s S R L tw fw fc len B c (wins wn) ++ mdU g P H X0 G f h g2) (cc, ss) := hn T a tx _ ⟨_, _, _, _, _, _, _, _, _, rfl, hM, hC, hA, hL⟩ (by omega) _ _
    refine go hX (fun pc => if pc = 1278 then some 7 else none) 40 ?_
    refine And.intro (fun _ => ?_) (fun z => absurd h3 z)
    refine And.intro (fun _ => hend) (fun hk0 => ⟨in_lit (by decide), And.intro (fun _ => hend) (fun z => absurd (lgc (hg hk0)) z)⟩)
  have pC : ∀ sc s S R L tw fw fc len B c wn g P H X0 G f h g2, mcl (p5 sc s S R L tw fw fc len B c (wins wn)) → CW T a tx.length (fun k => tx.getD k 0) (p5 sc s S R L tw fw fc len B c (wins wn)) → LM a tx g P X0 f → f 3 = (requestAtA (xs (i + 1).toNatClampNeg) a.1).1 → ((requestAtA (xs (i + 1).toNatClampNeg) a.1).1 = 0 → g2 0 = (requestAtA (xs (i + 1).toNatClampNeg) a.1).2.toInt64) → X 607 (LL i (some (.int (requestAtA (xs (i + 1).toNatClampNeg) a.1).1)) x6) [.int (requestAtA (xs (i + 1).toNatClampNeg) a.1).2] (p5 sc s S R L tw fw fc len B c (wins wn) ++ mdU g P H X0 G f h g2) (cc, ss) := by
    intro sc s S R L tw fw fc len B c wn g P H X0 G f h g2 hM hC hL h3 hg
    refine go hX (fun pc => if pc = 613 then some 7 else none) 40 ?_
    refine Tr.ap eM pM (m_thrown (g := g) (P := P) (H := H) (X := X0) (G := G) (f := f) (h := h) ?_) rfl rfl rfl rfl
    exact pD sc s S R L tw fw fc len B c wn g P H X0 G f h g2 hM hC hL h3 hg
  have pB : ∀ sc s S R L tw fw fc len B c wn g2, mcl (p5 sc s S R L tw fw fc len B c (wins wn)) → CW T a tx.length (fun k => tx.getD k 0) (p5 sc s S R L tw fw fc len B c (wins wn)) → ((requestAtA (xs (i + 1).toNatClampNeg) a.1).1 = 0 → g2 0 = (requestAtA (xs (i + 1).toNatClampNeg) a.1).2.toInt64) → X 595 (LL i x5 x6) [.int (requestAtA (xs (i + 1).toNatClampNeg) a.1).1] (p5 sc s S R L tw fw fc len B c (wins wn) ++ mdU g P H X0 G f h g2) (cc, ss) := by
    intro sc s S R L tw fw fc len B c wn g2 hM hC hg
    refine go hX (fun pc => if pc = 607 then some 7 else none) 40 ?_
    refine ⟨v1, ?_⟩
    refine Tr.ap eM pM (mc_requestAt (g := g) (P := P) (H := H) (X := X0) (G := G) (f := f) (h := h) hA hL (fun g' P' H' X' G' f' h' hL' h3' => ?_)) rfl rfl rfl rfl
    exact pC sc s S R L tw fw fc len B c wn g' P' H' X' G' f' h' g2 hM hC hL' h3' hg
  obtain ⟨sc, s, S, R, L, tw, fw, fc, len, B, c, wn, rfl⟩ := cw_p5 Mc hC
  refine go hX (fun pc => if pc = 595 then some 7 else none) 40 ?_
  refine ⟨v1, ?_⟩
  refine h_requestAt (P := CW T a tx.length (fun k => tx.getD k 0)) cw_p5 hM (oc_requestAt hA hC) k_requestAt (fun E M z => z) (fun M1 g2 hC1 hM1 hg => ?_)
  obtain ⟨sc, s, S, R, L, tw, fw, fc, len, B, c, wn, rfl⟩ := cw_p5 M1 hC1
  exact pB sc s S R L tw fw fc len B c wn g2 hM1 hC1 hg
set_option maxRecDepth 20000 in
theorem lc_logged (hX : Clo (kL_law Ls xs) Q X) (v1 : vp_in (i + 1) Ls) (v2 : vp_in (i + 2) Ls) (v3 : vp_in (i + 3) Ls) (hW : LW T a tx W) (hT : T + 200 < 2 ^ 31) (hn : ∀ T1 a1 tx1 W1, LW T1 a1 tx1 W1 → T1 ≤ T + 151 → ∀ x5 x6, X 1278 (LL i x5 x6) [] W1 (cc, ss)) : X 640 (LL i x5 x6) [] W (cc + 1, ss + 6) := by
  obtain ⟨Mc, g, P, H, X0, G, f, h, g1, rfl, hM, hC, hA, hL⟩ := hW
  have pD : ∀ sc s S R L tw fw fc len B c wn g P H X0 G f h g2, mcl (p5 sc s S R L tw fw fc len B c (wins wn)) → CW T a tx.length (fun k => tx.getD k 0) (p5 sc s S R L tw fw fc len B c (wins wn)) → LM a tx g P X0 f → f 3 = (loggedA (xs (i + 1).toNatClampNeg) (xs (i + 2).toNatClampNeg) a.1).1 → ((loggedA (xs (i + 1).toNatClampNeg) (xs (i + 2).toNatClampNeg) a.1).1 = 0 → g2 0 = (loggedA (xs (i + 1).toNatClampNeg) (xs (i + 2).toNatClampNeg) a.1).2.toInt64) → X 681 (LL i (some (.int (loggedA (xs (i + 1).toNatClampNeg) (xs (i + 2).toNatClampNeg) a.1).1)) (some (.int (loggedA (xs (i + 1).toNatClampNeg) (xs (i + 2).toNatClampNeg) a.1).2))) [.int (f 3)] (p5 sc s S R L tw fw fc len B c (wins wn) ++ mdU g P H X0 G f h g2) (cc, ss) := by
    intro sc s S R L tw fw fc len B c wn g P H X0 G f h g2 hM hC hL h3 hg
    have hend : X 1278 (LL i (some (.int (loggedA (xs (i + 1).toNatClampNeg) (xs (i + 2).toNatClampNeg) a.1).1)) (some (.int (loggedA (xs (i + 1).toNatClampNeg) (xs (i + 2).toNatClampNeg) a.1).2))) [] (p5 sc s S R L tw fw fc len B c (wins wn) ++ mdU g P H X0 G f h g2) (cc, ss) := hn T a tx _ ⟨_, _, _, _, _, _, _, _, _, rfl, hM, hC, hA, hL⟩ (by omega) _ _
    refine go hX (fun pc => if pc = 1278 then some 7 else none) 40 ?_
    refine And.intro (fun _ => ?_) (fun z => absurd h3 z)
    refine And.intro (fun _ => hend) (fun hk0 => ⟨in_lit (by decide), And.intro (fun _ => hend) (fun z => absurd (lgc (hg hk0)) z)⟩)
  have pC : ∀ sc s S R L tw fw fc len B c wn g P H X0 G f h g2, mcl (p5 sc s S R L tw fw fc len B c (wins wn)) → CW T a tx.length (fun k => tx.getD k 0) (p5 sc s S R L tw fw fc len B c (wins wn)) → LM a tx g P X0 f → f 3 = (loggedA (xs (i + 1).toNatClampNeg) (xs (i + 2).toNatClampNeg) a.1).1 → ((loggedA (xs (i + 1).toNatClampNeg) (xs (i + 2).toNatClampNeg) a.1).1 = 0 → g2 0 = (loggedA (xs (i + 1).toNatClampNeg) (xs (i + 2).toNatClampNeg) a.1).2.toInt64) → X 675 (LL i (some (.int (loggedA (xs (i + 1).toNatClampNeg) (xs (i + 2).toNatClampNeg) a.1).1)) x6) [.int (loggedA (xs (i + 1).toNatClampNeg) (xs (i + 2).toNatClampNeg) a.1).2] (p5 sc s S R L tw fw fc len B c (wins wn) ++ mdU g P H X0 G f h g2) (cc, ss) := by
    intro sc s S R L tw fw fc len B c wn g P H X0 G f h g2 hM hC hL h3 hg
    refine go hX (fun pc => if pc = 681 then some 7 else none) 40 ?_
    refine Tr.ap eM pM (m_thrown (g := g) (P := P) (H := H) (X := X0) (G := G) (f := f) (h := h) ?_) rfl rfl rfl rfl
    exact pD sc s S R L tw fw fc len B c wn g P H X0 G f h g2 hM hC hL h3 hg
  have pB : ∀ sc s S R L tw fw fc len B c wn g2, mcl (p5 sc s S R L tw fw fc len B c (wins wn)) → CW T a tx.length (fun k => tx.getD k 0) (p5 sc s S R L tw fw fc len B c (wins wn)) → ((loggedA (xs (i + 1).toNatClampNeg) (xs (i + 2).toNatClampNeg) a.1).1 = 0 → g2 0 = (loggedA (xs (i + 1).toNatClampNeg) (xs (i + 2).toNatClampNeg) a.1).2.toInt64) → X 657 (LL i x5 x6) [.int (loggedA (xs (i + 1).toNatClampNeg) (xs (i + 2).toNatClampNeg) a.1).1] (p5 sc s S R L tw fw fc len B c (wins wn) ++ mdU g P H X0 G f h g2) (cc, ss) := by
    intro sc s S R L tw fw fc len B c wn g2 hM hC hg
    refine go hX (fun pc => if pc = 675 then some 7 else none) 40 ?_
    refine ⟨v1, v2, ?_⟩
    refine Tr.ap eM pM (mc_logged (g := g) (P := P) (H := H) (X := X0) (G := G) (f := f) (h := h) hA hL (fun g' P' H' X' G' f' h' hL' h3' => ?_)) rfl rfl rfl rfl
    exact pC sc s S R L tw fw fc len B c wn g' P' H' X' G' f' h' g2 hM hC hL' h3' hg
  obtain ⟨sc, s, S, R, L, tw, fw, fc, len, B, c, wn, rfl⟩ := cw_p5 Mc hC
  refine go hX (fun pc => if pc = 657 then some 7 else none) 40 ?_
  refine ⟨v1, v2, ?_⟩
  refine h_logged (P := CW T a tx.length (fun k => tx.getD k 0)) cw_p5 hM (oc_logged hA (by omega) hC) k_logged (fun E M z => z) (fun M1 g2 hC1 hM1 hg => ?_)
  obtain ⟨sc, s, S, R, L, tw, fw, fc, len, B, c, wn, rfl⟩ := cw_p5 M1 hC1
  exact pB sc s S R L tw fw fc len B c wn g2 hM1 hC1 hg
