/-! ===== the law's loop: the calls of each kind ===== -/
variable {X : WK} {Q : AQ} {Ls T cc ss : Nat} {xs : Nat → Int32} {a : Kp} {tx : List Int32} {W : AM} {i : Int32} {x5 x6 : Option Value}
set_option maxRecDepth 20000 in
theorem lc_plate (hX : Clo (kL_law Ls xs) Q X) (v1 : vp_in (i + 1) Ls) (v2 : vp_in (i + 2) Ls) (v3 : vp_in (i + 3) Ls) (hW : LW T a tx W) (hT : T + 200 < 2 ^ 31) (hn : ∀ T1 a1 tx1 W1, LW T1 a1 tx1 W1 → T1 ≤ T + 151 → ∀ x5 x6, X 1278 (LL i x5 x6) [] W1 (cc, ss)) : X 144 (LL i x5 x6) [] W (cc + 1, ss + 6) := by
  obtain ⟨Mc, g, P, H, X0, G, f, h, g1, rfl, hM, hC, hA, hL⟩ := hW
  have pD : ∀ sc s S R L tw fw fc len B c wn g P H X0 G f h g2, mcl (p5 sc s S R L tw fw fc len B c (wins wn)) → CW T (plateA true (xs (i + 1).toNatClampNeg) (xs (i + 2).toNatClampNeg) a).2.2 tx.length (fun k => tx.getD k 0) (p5 sc s S R L tw fw fc len B c (wins wn)) → LM (plateA true (xs (i + 1).toNatClampNeg) (xs (i + 2).toNatClampNeg) a).2.2 tx g P X0 f → f 3 = (plateA true (xs (i + 1).toNatClampNeg) (xs (i + 2).toNatClampNeg) a).1 → ((plateA true (xs (i + 1).toNatClampNeg) (xs (i + 2).toNatClampNeg) a).1 = 0 → g2 0 = (plateA true (xs (i + 1).toNatClampNeg) (xs (i + 2).toNatClampNeg) a).2.1.toInt64) → X 185 (LL i (some (.int (plateA true (xs (i + 1).toNatClampNeg) (xs (i + 2).toNatClampNeg) a).1)) (some (.int (plateA true (xs (i + 1).toNatClampNeg) (xs (i + 2).toNatClampNeg) a).2.1))) [.int (f 3)] (p5 sc s S R L tw fw fc len B c (wins wn) ++ mdU g P H X0 G f h g2) (cc, ss) := by
    intro sc s S R L tw fw fc len B c wn g P H X0 G f h g2 hM hC hL h3 hg
    have hend : X 1278 (LL i (some (.int (plateA true (xs (i + 1).toNatClampNeg) (xs (i + 2).toNatClampNeg) a).1)) (some (.int (plateA true (xs (i + 1).toNatClampNeg) (xs (i + 2).toNatClampNeg) a).2.1))) [] (p5 sc s S R L tw fw fc len B c (wins wn) ++ mdU g P H X0 G f h g2) (cc, ss) := hn T (plateA true (xs (i + 1).toNatClampNeg) (xs (i + 2).toNatClampNeg) a).2.2 tx _ ⟨_, _, _, _, _, _, _, _, _, rfl, hM, hC, ai_plate hA, hL⟩ (by omega) _ _
    refine go hX (fun pc => if pc = 1278 then some 7 else none) 40 ?_
    refine And.intro (fun _ => ?_) (fun z => absurd h3 z)
    refine And.intro (fun _ => hend) (fun hk0 => ⟨in_lit (by decide), And.intro (fun _ => hend) (fun z => absurd (lgc (hg hk0)) z)⟩)
  have pC : ∀ sc s S R L tw fw fc len B c wn g P H X0 G f h g2, mcl (p5 sc s S R L tw fw fc len B c (wins wn)) → CW T (plateA true (xs (i + 1).toNatClampNeg) (xs (i + 2).toNatClampNeg) a).2.2 tx.length (fun k => tx.getD k 0) (p5 sc s S R L tw fw fc len B c (wins wn)) → LM (plateA true (xs (i + 1).toNatClampNeg) (xs (i + 2).toNatClampNeg) a).2.2 tx g P X0 f → f 3 = (plateA true (xs (i + 1).toNatClampNeg) (xs (i + 2).toNatClampNeg) a).1 → ((plateA true (xs (i + 1).toNatClampNeg) (xs (i + 2).toNatClampNeg) a).1 = 0 → g2 0 = (plateA true (xs (i + 1).toNatClampNeg) (xs (i + 2).toNatClampNeg) a).2.1.toInt64) → X 179 (LL i (some (.int (plateA true (xs (i + 1).toNatClampNeg) (xs (i + 2).toNatClampNeg) a).1)) x6) [.int (plateA true (xs (i + 1).toNatClampNeg) (xs (i + 2).toNatClampNeg) a).2.1] (p5 sc s S R L tw fw fc len B c (wins wn) ++ mdU g P H X0 G f h g2) (cc, ss) := by
    intro sc s S R L tw fw fc len B c wn g P H X0 G f h g2 hM hC hL h3 hg
    refine go hX (fun pc => if pc = 185 then some 7 else none) 40 ?_
    refine Tr.ap eM pM (m_thrown (g := g) (P := P) (H := H) (X := X0) (G := G) (f := f) (h := h) ?_) rfl rfl rfl rfl
    exact pD sc s S R L tw fw fc len B c wn g P H X0 G f h g2 hM hC hL h3 hg
  have pB : ∀ sc s S R L tw fw fc len B c wn g2, mcl (p5 sc s S R L tw fw fc len B c (wins wn)) → CW T (plateA true (xs (i + 1).toNatClampNeg) (xs (i + 2).toNatClampNeg) a).2.2 tx.length (fun k => tx.getD k 0) (p5 sc s S R L tw fw fc len B c (wins wn)) → ((plateA true (xs (i + 1).toNatClampNeg) (xs (i + 2).toNatClampNeg) a).1 = 0 → g2 0 = (plateA true (xs (i + 1).toNatClampNeg) (xs (i + 2).toNatClampNeg) a).2.1.toInt64) → X 161 (LL i x5 x6) [.int (plateA true (xs (i + 1).toNatClampNeg) (xs (i + 2).toNatClampNeg) a).1] (p5 sc s S R L tw fw fc len B c (wins wn) ++ mdU g P H X0 G f h g2) (cc, ss) := by
    intro sc s S R L tw fw fc len B c wn g2 hM hC hg
    refine go hX (fun pc => if pc = 179 then some 7 else none) 40 ?_
    refine ⟨v1, v2, ?_⟩
    refine Tr.ap eM pM (mc_plate (g := g) (P := P) (H := H) (X := X0) (G := G) (f := f) (h := h) hA hL (fun g' P' H' X' G' f' h' hL' h3' => ?_)) rfl rfl rfl rfl
    exact pC sc s S R L tw fw fc len B c wn g' P' H' X' G' f' h' g2 hM hC hL' h3' hg
  obtain ⟨sc, s, S, R, L, tw, fw, fc, len, B, c, wn, rfl⟩ := cw_p5 Mc hC
  refine go hX (fun pc => if pc = 161 then some 7 else none) 40 ?_
  refine ⟨v1, v2, ?_⟩
  refine h_plate (P := CW T (plateA true (xs (i + 1).toNatClampNeg) (xs (i + 2).toNatClampNeg) a).2.2 tx.length (fun k => tx.getD k 0)) cw_p5 hM (oc_plate hA hC) k_plate (fun E M z => z) (fun M1 g2 hC1 hM1 hg => ?_)
  obtain ⟨sc, s, S, R, L, tw, fw, fc, len, B, c, wn, rfl⟩ := cw_p5 M1 hC1
  exact pB sc s S R L tw fw fc len B c wn g2 hM1 hC1 hg
set_option maxRecDepth 20000 in
theorem lc_request (hX : Clo (kL_law Ls xs) Q X) (v1 : vp_in (i + 1) Ls) (v2 : vp_in (i + 2) Ls) (v3 : vp_in (i + 3) Ls) (hW : LW T a tx W) (hT : T + 200 < 2 ^ 31) (hn : ∀ T1 a1 tx1 W1, LW T1 a1 tx1 W1 → T1 ≤ T + 151 → ∀ x5 x6, X 1278 (LL i x5 x6) [] W1 (cc, ss)) : X 212 (LL i x5 x6) [] W (cc + 1, ss + 6) := by
  obtain ⟨Mc, g, P, H, X0, G, f, h, g1, rfl, hM, hC, hA, hL⟩ := hW
  have pD : ∀ sc s S R L tw fw fc len B c wn g P H X0 G f h g2, mcl (p5 sc s S R L tw fw fc len B c (wins wn)) → CW (T + 1) (requestA true (xs (i + 1).toNatClampNeg) (xs (i + 2).toNatClampNeg) (xs (i + 3).toNatClampNeg) a).2.2 tx.length (fun k => tx.getD k 0) (p5 sc s S R L tw fw fc len B c (wins wn)) → LM (requestA true (xs (i + 1).toNatClampNeg) (xs (i + 2).toNatClampNeg) (xs (i + 3).toNatClampNeg) a).2.2 tx g P X0 f → f 3 = (requestA true (xs (i + 1).toNatClampNeg) (xs (i + 2).toNatClampNeg) (xs (i + 3).toNatClampNeg) a).1 → ((requestA true (xs (i + 1).toNatClampNeg) (xs (i + 2).toNatClampNeg) (xs (i + 3).toNatClampNeg) a).1 = 0 → g2 0 = (requestA true (xs (i + 1).toNatClampNeg) (xs (i + 2).toNatClampNeg) (xs (i + 3).toNatClampNeg) a).2.1.toInt64) → X 265 (LL i (some (.int (requestA true (xs (i + 1).toNatClampNeg) (xs (i + 2).toNatClampNeg) (xs (i + 3).toNatClampNeg) a).1)) (some (.int (requestA true (xs (i + 1).toNatClampNeg) (xs (i + 2).toNatClampNeg) (xs (i + 3).toNatClampNeg) a).2.1))) [.int (f 3)] (p5 sc s S R L tw fw fc len B c (wins wn) ++ mdU g P H X0 G f h g2) (cc, ss) := by
    intro sc s S R L tw fw fc len B c wn g P H X0 G f h g2 hM hC hL h3 hg
    have hend : X 1278 (LL i (some (.int (requestA true (xs (i + 1).toNatClampNeg) (xs (i + 2).toNatClampNeg) (xs (i + 3).toNatClampNeg) a).1)) (some (.int (requestA true (xs (i + 1).toNatClampNeg) (xs (i + 2).toNatClampNeg) (xs (i + 3).toNatClampNeg) a).2.1))) [] (p5 sc s S R L tw fw fc len B c (wins wn) ++ mdU g P H X0 G f h g2) (cc, ss) := hn (T + 1) (requestA true (xs (i + 1).toNatClampNeg) (xs (i + 2).toNatClampNeg) (xs (i + 3).toNatClampNeg) a).2.2 tx _ ⟨_, _, _, _, _, _, _, _, _, rfl, hM, hC, ai_request hA (by omega), hL⟩ (by omega) _ _
    refine go hX (fun pc => if pc = 1278 then some 7 else none) 40 ?_
    refine And.intro (fun _ => ?_) (fun z => absurd h3 z)
    refine And.intro (fun _ => hend) (fun hk0 => ⟨in_lit (by decide), And.intro (fun _ => hend) (fun z => absurd (lgc (hg hk0)) z)⟩)
  have pC : ∀ sc s S R L tw fw fc len B c wn g P H X0 G f h g2, mcl (p5 sc s S R L tw fw fc len B c (wins wn)) → CW (T + 1) (requestA true (xs (i + 1).toNatClampNeg) (xs (i + 2).toNatClampNeg) (xs (i + 3).toNatClampNeg) a).2.2 tx.length (fun k => tx.getD k 0) (p5 sc s S R L tw fw fc len B c (wins wn)) → LM (requestA true (xs (i + 1).toNatClampNeg) (xs (i + 2).toNatClampNeg) (xs (i + 3).toNatClampNeg) a).2.2 tx g P X0 f → f 3 = (requestA true (xs (i + 1).toNatClampNeg) (xs (i + 2).toNatClampNeg) (xs (i + 3).toNatClampNeg) a).1 → ((requestA true (xs (i + 1).toNatClampNeg) (xs (i + 2).toNatClampNeg) (xs (i + 3).toNatClampNeg) a).1 = 0 → g2 0 = (requestA true (xs (i + 1).toNatClampNeg) (xs (i + 2).toNatClampNeg) (xs (i + 3).toNatClampNeg) a).2.1.toInt64) → X 259 (LL i (some (.int (requestA true (xs (i + 1).toNatClampNeg) (xs (i + 2).toNatClampNeg) (xs (i + 3).toNatClampNeg) a).1)) x6) [.int (requestA true (xs (i + 1).toNatClampNeg) (xs (i + 2).toNatClampNeg) (xs (i + 3).toNatClampNeg) a).2.1] (p5 sc s S R L tw fw fc len B c (wins wn) ++ mdU g P H X0 G f h g2) (cc, ss) := by
    intro sc s S R L tw fw fc len B c wn g P H X0 G f h g2 hM hC hL h3 hg
    refine go hX (fun pc => if pc = 265 then some 7 else none) 40 ?_
    refine Tr.ap eM pM (m_thrown (g := g) (P := P) (H := H) (X := X0) (G := G) (f := f) (h := h) ?_) rfl rfl rfl rfl
    exact pD sc s S R L tw fw fc len B c wn g P H X0 G f h g2 hM hC hL h3 hg
  have pB : ∀ sc s S R L tw fw fc len B c wn g2, mcl (p5 sc s S R L tw fw fc len B c (wins wn)) → CW (T + 1) (requestA true (xs (i + 1).toNatClampNeg) (xs (i + 2).toNatClampNeg) (xs (i + 3).toNatClampNeg) a).2.2 tx.length (fun k => tx.getD k 0) (p5 sc s S R L tw fw fc len B c (wins wn)) → ((requestA true (xs (i + 1).toNatClampNeg) (xs (i + 2).toNatClampNeg) (xs (i + 3).toNatClampNeg) a).1 = 0 → g2 0 = (requestA true (xs (i + 1).toNatClampNeg) (xs (i + 2).toNatClampNeg) (xs (i + 3).toNatClampNeg) a).2.1.toInt64) → X 235 (LL i x5 x6) [.int (requestA true (xs (i + 1).toNatClampNeg) (xs (i + 2).toNatClampNeg) (xs (i + 3).toNatClampNeg) a).1] (p5 sc s S R L tw fw fc len B c (wins wn) ++ mdU g P H X0 G f h g2) (cc, ss) := by
    intro sc s S R L tw fw fc len B c wn g2 hM hC hg
    refine go hX (fun pc => if pc = 259 then some 7 else none) 40 ?_
    refine ⟨v1, v2, v3, ?_⟩
    refine Tr.ap eM pM (mc_request (g := g) (P := P) (H := H) (X := X0) (G := G) (f := f) (h := h) hA hL (fun g' P' H' X' G' f' h' hL' h3' => ?_)) rfl rfl rfl rfl
    exact pC sc s S R L tw fw fc len B c wn g' P' H' X' G' f' h' g2 hM hC hL' h3' hg
  obtain ⟨sc, s, S, R, L, tw, fw, fc, len, B, c, wn, rfl⟩ := cw_p5 Mc hC
  refine go hX (fun pc => if pc = 235 then some 7 else none) 40 ?_
  refine ⟨v1, v2, v3, ?_⟩
  refine h_request (P := CW (T + 1) (requestA true (xs (i + 1).toNatClampNeg) (xs (i + 2).toNatClampNeg) (xs (i + 3).toNatClampNeg) a).2.2 tx.length (fun k => tx.getD k 0)) cw_p5 hM (oc_request hA hC) k_request (fun E M z => z) (fun M1 g2 hC1 hM1 hg => ?_)
  obtain ⟨sc, s, S, R, L, tw, fw, fc, len, B, c, wn, rfl⟩ := cw_p5 M1 hC1
  exact pB sc s S R L tw fw fc len B c wn g2 hM1 hC1 hg
set_option maxRecDepth 20000 in
theorem lc_cancel (hX : Clo (kL_law Ls xs) Q X) (v1 : vp_in (i + 1) Ls) (v2 : vp_in (i + 2) Ls) (v3 : vp_in (i + 3) Ls) (hW : LW T a tx W) (hT : T + 200 < 2 ^ 31) (hn : ∀ T1 a1 tx1 W1, LW T1 a1 tx1 W1 → T1 ≤ T + 151 → ∀ x5 x6, X 1278 (LL i x5 x6) [] W1 (cc, ss)) : X 292 (LL i x5 x6) [] W (cc + 1, ss + 6) := by
  obtain ⟨Mc, g, P, H, X0, G, f, h, g1, rfl, hM, hC, hA, hL⟩ := hW
  have pD : ∀ sc s S R L tw fw fc len B c wn g P H X0 G f h g2, mcl (p5 sc s S R L tw fw fc len B c (wins wn)) → CW T (cancelA true (xs (i + 1).toNatClampNeg) a).2.2 tx.length (fun k => tx.getD k 0) (p5 sc s S R L tw fw fc len B c (wins wn)) → LM (cancelA true (xs (i + 1).toNatClampNeg) a).2.2 tx g P X0 f → f 3 = (cancelA true (xs (i + 1).toNatClampNeg) a).1 → ((cancelA true (xs (i + 1).toNatClampNeg) a).1 = 0 → g2 0 = (cancelA true (xs (i + 1).toNatClampNeg) a).2.1.toInt64) → X 321 (LL i (some (.int (cancelA true (xs (i + 1).toNatClampNeg) a).1)) (some (.int (cancelA true (xs (i + 1).toNatClampNeg) a).2.1))) [.int (f 3)] (p5 sc s S R L tw fw fc len B c (wins wn) ++ mdU g P H X0 G f h g2) (cc, ss) := by
    intro sc s S R L tw fw fc len B c wn g P H X0 G f h g2 hM hC hL h3 hg
    have hend : X 1278 (LL i (some (.int (cancelA true (xs (i + 1).toNatClampNeg) a).1)) (some (.int (cancelA true (xs (i + 1).toNatClampNeg) a).2.1))) [] (p5 sc s S R L tw fw fc len B c (wins wn) ++ mdU g P H X0 G f h g2) (cc, ss) := hn T (cancelA true (xs (i + 1).toNatClampNeg) a).2.2 tx _ ⟨_, _, _, _, _, _, _, _, _, rfl, hM, hC, ai_cancel hA, hL⟩ (by omega) _ _
    refine go hX (fun pc => if pc = 1278 then some 7 else none) 40 ?_
    refine And.intro (fun _ => ?_) (fun z => absurd h3 z)
    refine And.intro (fun _ => hend) (fun hk0 => ⟨in_lit (by decide), And.intro (fun _ => hend) (fun z => absurd (lgc (hg hk0)) z)⟩)
  have pC : ∀ sc s S R L tw fw fc len B c wn g P H X0 G f h g2, mcl (p5 sc s S R L tw fw fc len B c (wins wn)) → CW T (cancelA true (xs (i + 1).toNatClampNeg) a).2.2 tx.length (fun k => tx.getD k 0) (p5 sc s S R L tw fw fc len B c (wins wn)) → LM (cancelA true (xs (i + 1).toNatClampNeg) a).2.2 tx g P X0 f → f 3 = (cancelA true (xs (i + 1).toNatClampNeg) a).1 → ((cancelA true (xs (i + 1).toNatClampNeg) a).1 = 0 → g2 0 = (cancelA true (xs (i + 1).toNatClampNeg) a).2.1.toInt64) → X 315 (LL i (some (.int (cancelA true (xs (i + 1).toNatClampNeg) a).1)) x6) [.int (cancelA true (xs (i + 1).toNatClampNeg) a).2.1] (p5 sc s S R L tw fw fc len B c (wins wn) ++ mdU g P H X0 G f h g2) (cc, ss) := by
    intro sc s S R L tw fw fc len B c wn g P H X0 G f h g2 hM hC hL h3 hg
    refine go hX (fun pc => if pc = 321 then some 7 else none) 40 ?_
    refine Tr.ap eM pM (m_thrown (g := g) (P := P) (H := H) (X := X0) (G := G) (f := f) (h := h) ?_) rfl rfl rfl rfl
    exact pD sc s S R L tw fw fc len B c wn g P H X0 G f h g2 hM hC hL h3 hg
  have pB : ∀ sc s S R L tw fw fc len B c wn g2, mcl (p5 sc s S R L tw fw fc len B c (wins wn)) → CW T (cancelA true (xs (i + 1).toNatClampNeg) a).2.2 tx.length (fun k => tx.getD k 0) (p5 sc s S R L tw fw fc len B c (wins wn)) → ((cancelA true (xs (i + 1).toNatClampNeg) a).1 = 0 → g2 0 = (cancelA true (xs (i + 1).toNatClampNeg) a).2.1.toInt64) → X 303 (LL i x5 x6) [.int (cancelA true (xs (i + 1).toNatClampNeg) a).1] (p5 sc s S R L tw fw fc len B c (wins wn) ++ mdU g P H X0 G f h g2) (cc, ss) := by
    intro sc s S R L tw fw fc len B c wn g2 hM hC hg
    refine go hX (fun pc => if pc = 315 then some 7 else none) 40 ?_
    refine ⟨v1, ?_⟩
    refine Tr.ap eM pM (mc_cancel (g := g) (P := P) (H := H) (X := X0) (G := G) (f := f) (h := h) hA hL (fun g' P' H' X' G' f' h' hL' h3' => ?_)) rfl rfl rfl rfl
    exact pC sc s S R L tw fw fc len B c wn g' P' H' X' G' f' h' g2 hM hC hL' h3' hg
  obtain ⟨sc, s, S, R, L, tw, fw, fc, len, B, c, wn, rfl⟩ := cw_p5 Mc hC
  refine go hX (fun pc => if pc = 303 then some 7 else none) 40 ?_
  refine ⟨v1, ?_⟩
  refine h_cancel (P := CW T (cancelA true (xs (i + 1).toNatClampNeg) a).2.2 tx.length (fun k => tx.getD k 0)) cw_p5 hM (oc_cancel hA hC) k_cancel (fun E M z => z) (fun M1 g2 hC1 hM1 hg => ?_)
  obtain ⟨sc, s, S, R, L, tw, fw, fc, len, B, c, wn, rfl⟩ := cw_p5 M1 hC1
  exact pB sc s S R L tw fw fc len B c wn g2 hM1 hC1 hg
