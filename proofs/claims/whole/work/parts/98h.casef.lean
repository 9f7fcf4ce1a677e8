/-! ===== the law's loop: the calls of each kind ===== -/
variable {X : WK} {Q : AQ} {Ls T cc ss : Nat} {xs : Nat → Int32} {a : Kp} {tx : List Int32} {W : AM} {i : Int32} {x5 x6 : Option Value}
set_option maxRecDepth 20000 in
theorem lc_reason (hX : Clo (kL_law Ls xs) Q X) (v1 : vp_in (i + 1) Ls) (v2 : vp_in (i + 2) Ls) (v3 : vp_in (i + 3) Ls) (hW : LW T a tx W) (hT : T + 200 < 2 ^ 31) (hn : ∀ T1 a1 tx1 W1, LW T1 a1 tx1 W1 → T1 ≤ T + 151 → ∀ x5 x6, X 1278 (LL i x5 x6) [] W1 (cc, ss)) : X 1082 (LL i x5 x6) [] W (cc + 1, ss + 6) := by
  obtain ⟨Mc, g, P, H, X0, G, f, h, g1, rfl, hM, hC, hA, hL⟩ := hW
  have pD : ∀ sc s S R L tw fw fc len B c wn g P H X0 G f h g2, mcl (p5 sc s S R L tw fw fc len B c (wins wn)) → CW T a tx.length (fun k => tx.getD k 0) (p5 sc s S R L tw fw fc len B c (wins wn)) → LM a tx g P X0 f → f 3 = (reasonA (xs (i + 1).toNatClampNeg) a.1).1 → ((reasonA (xs (i + 1).toNatClampNeg) a.1).1 = 0 → g2 0 = (reasonA (xs (i + 1).toNatClampNeg) a.1).2.toInt64) → X 1111 (LL i (some (.int (reasonA (xs (i + 1).toNatClampNeg) a.1).1)) (some (.int (reasonA (xs (i + 1).toNatClampNeg) a.1).2))) [.int (f 3)] (p5 sc s S R L tw fw fc len B c (wins wn) ++ mdU g P H X0 G f h g2) (cc, ss) := by
    intro sc s S R L tw fw fc len B c wn g P H X0 G f h g2 hM hC hL h3 hg
    have hend : X 1278 (LL i (some (.int (reasonA (xs (i + 1).toNatClampNeg) a.1).1)) (some (.int (reasonA (xs (i + 1).toNatClampNeg) a.1).2))) [] (p5 sc s S R L tw fw fc len B c (wins wn) ++ mdU g P H X0 G f h g2) (cc, ss) := hn T a tx _ ⟨_, _, _, _, _, _, _, _, _, rfl, hM, hC, hA, hL⟩ (by omega) _ _
    refine go hX (fun pc => if pc = 1278 then some 7 else none) 40 ?_
    refine And.intro (fun _ => ?_) (fun z => absurd h3 z)
    refine And.intro (fun _ => hend) (fun hk0 => ⟨in_lit (by decide), And.intro (fun _ => hend) (fun z => absurd (lgc (hg hk0)) z)⟩)
  have pC : ∀ sc s S R L tw fw fc len B c wn g P H X0 G f h g2, mcl (p5 sc s S R L tw fw fc len B c (wins wn)) → CW T a tx.length (fun k => tx.getD k 0) (p5 sc s S R L tw fw fc len B c (wins wn)) → LM a tx g P X0 f → f 3 = (reasonA (xs (i + 1).toNatClampNeg) a.1).1 → ((reasonA (xs (i + 1).toNatClampNeg) a.1).1 = 0 → g2 0 = (reasonA (xs (i + 1).toNatClampNeg) a.1).2.toInt64) → X 1105 (LL i (some (.int (reasonA (xs (i + 1).toNatClampNeg) a.1).1)) x6) [.int (reasonA (xs (i + 1).toNatClampNeg) a.1).2] (p5 sc s S R L tw fw fc len B c (wins wn) ++ mdU g P H X0 G f h g2) (cc, ss) := by
    intro sc s S R L tw fw fc len B c wn g P H X0 G f h g2 hM hC hL h3 hg
    refine go hX (fun pc => if pc = 1111 then some 7 else none) 40 ?_
    refine Tr.ap eM pM (m_thrown (g := g) (P := P) (H := H) (X := X0) (G := G) (f := f) (h := h) ?_) rfl rfl rfl rfl
    exact pD sc s S R L tw fw fc len B c wn g P H X0 G f h g2 hM hC hL h3 hg
  have pB : ∀ sc s S R L tw fw fc len B c wn g2, mcl (p5 sc s S R L tw fw fc len B c (wins wn)) → CW T a tx.length (fun k => tx.getD k 0) (p5 sc s S R L tw fw fc len B c (wins wn)) → ((reasonA (xs (i + 1).toNatClampNeg) a.1).1 = 0 → g2 0 = (reasonA (xs (i + 1).toNatClampNeg) a.1).2.toInt64) → X 1093 (LL i x5 x6) [.int (reasonA (xs (i + 1).toNatClampNeg) a.1).1] (p5 sc s S R L tw fw fc len B c (wins wn) ++ mdU g P H X0 G f h g2) (cc, ss) := by
    intro sc s S R L tw fw fc len B c wn g2 hM hC hg
    refine go hX (fun pc => if pc = 1105 then some 7 else none) 40 ?_
    refine ⟨v1, ?_⟩
    refine Tr.ap eM pM (mc_reason (g := g) (P := P) (H := H) (X := X0) (G := G) (f := f) (h := h) hA hL (fun g' P' H' X' G' f' h' hL' h3' => ?_)) rfl rfl rfl rfl
    exact pC sc s S R L tw fw fc len B c wn g' P' H' X' G' f' h' g2 hM hC hL' h3' hg
  obtain ⟨sc, s, S, R, L, tw, fw, fc, len, B, c, wn, rfl⟩ := cw_p5 Mc hC
  refine go hX (fun pc => if pc = 1093 then some 7 else none) 40 ?_
  refine ⟨v1, ?_⟩
  refine h_reason (P := CW T a tx.length (fun k => tx.getD k 0)) cw_p5 hM (oc_reason hA hC) k_reason (fun E M z => z) (fun M1 g2 hC1 hM1 hg => ?_)
  obtain ⟨sc, s, S, R, L, tw, fw, fc, len, B, c, wn, rfl⟩ := cw_p5 M1 hC1
  exact pB sc s S R L tw fw fc len B c wn g2 hM1 hC1 hg
set_option maxRecDepth 20000 in
theorem lc_type (hX : Clo (kL_law Ls xs) Q X) (v1 : vp_in (i + 1) Ls) (v2 : vp_in (i + 2) Ls) (v3 : vp_in (i + 3) Ls) (hW : LW T a tx W) (hT : T + 200 < 2 ^ 31) (hn : ∀ T1 a1 tx1 W1, LW T1 a1 tx1 W1 → T1 ≤ T + 151 → ∀ x5 x6, X 1278 (LL i x5 x6) [] W1 (cc, ss)) : X 1138 (LL i x5 x6) [] W (cc + 1, ss + 6) := by
  obtain ⟨Mc, g, P, H, X0, G, f, h, g1, rfl, hM, hC, hA, hL⟩ := hW
  have pD : ∀ sc s S R L tw fw fc len B c wn g P H X0 G f h g2, mcl (p5 sc s S R L tw fw fc len B c (wins wn)) → CW T a (typeA (xs (i + 1).toNatClampNeg) tx).2.2.length (fun k => (typeA (xs (i + 1).toNatClampNeg) tx).2.2.getD k 0) (p5 sc s S R L tw fw fc len B c (wins wn)) → LM a (typeA (xs (i + 1).toNatClampNeg) tx).2.2 g P X0 f → f 3 = (typeA (xs (i + 1).toNatClampNeg) tx).1 → ((typeA (xs (i + 1).toNatClampNeg) tx).1 = 0 → g2 0 = (typeA (xs (i + 1).toNatClampNeg) tx).2.1.toInt64) → X 1167 (LL i (some (.int (typeA (xs (i + 1).toNatClampNeg) tx).1)) (some (.int (typeA (xs (i + 1).toNatClampNeg) tx).2.1))) [.int (f 3)] (p5 sc s S R L tw fw fc len B c (wins wn) ++ mdU g P H X0 G f h g2) (cc, ss) := by
    intro sc s S R L tw fw fc len B c wn g P H X0 G f h g2 hM hC hL h3 hg
    have hend : X 1278 (LL i (some (.int (typeA (xs (i + 1).toNatClampNeg) tx).1)) (some (.int (typeA (xs (i + 1).toNatClampNeg) tx).2.1))) [] (p5 sc s S R L tw fw fc len B c (wins wn) ++ mdU g P H X0 G f h g2) (cc, ss) := hn T a (typeA (xs (i + 1).toNatClampNeg) tx).2.2 _ ⟨_, _, _, _, _, _, _, _, _, rfl, hM, hC, hA, hL⟩ (by omega) _ _
    refine go hX (fun pc => if pc = 1278 then some 7 else none) 40 ?_
    refine And.intro (fun _ => ?_) (fun z => absurd h3 z)
    refine And.intro (fun _ => hend) (fun hk0 => ⟨in_lit (by decide), And.intro (fun _ => hend) (fun z => absurd (lgc (hg hk0)) z)⟩)
  have pC : ∀ sc s S R L tw fw fc len B c wn g P H X0 G f h g2, mcl (p5 sc s S R L tw fw fc len B c (wins wn)) → CW T a (typeA (xs (i + 1).toNatClampNeg) tx).2.2.length (fun k => (typeA (xs (i + 1).toNatClampNeg) tx).2.2.getD k 0) (p5 sc s S R L tw fw fc len B c (wins wn)) → LM a (typeA (xs (i + 1).toNatClampNeg) tx).2.2 g P X0 f → f 3 = (typeA (xs (i + 1).toNatClampNeg) tx).1 → ((typeA (xs (i + 1).toNatClampNeg) tx).1 = 0 → g2 0 = (typeA (xs (i + 1).toNatClampNeg) tx).2.1.toInt64) → X 1161 (LL i (some (.int (typeA (xs (i + 1).toNatClampNeg) tx).1)) x6) [.int (typeA (xs (i + 1).toNatClampNeg) tx).2.1] (p5 sc s S R L tw fw fc len B c (wins wn) ++ mdU g P H X0 G f h g2) (cc, ss) := by
    intro sc s S R L tw fw fc len B c wn g P H X0 G f h g2 hM hC hL h3 hg
    refine go hX (fun pc => if pc = 1167 then some 7 else none) 40 ?_
    refine Tr.ap eM pM (m_thrown (g := g) (P := P) (H := H) (X := X0) (G := G) (f := f) (h := h) ?_) rfl rfl rfl rfl
    exact pD sc s S R L tw fw fc len B c wn g P H X0 G f h g2 hM hC hL h3 hg
  have pB : ∀ sc s S R L tw fw fc len B c wn g2, mcl (p5 sc s S R L tw fw fc len B c (wins wn)) → CW T a (typeA (xs (i + 1).toNatClampNeg) tx).2.2.length (fun k => (typeA (xs (i + 1).toNatClampNeg) tx).2.2.getD k 0) (p5 sc s S R L tw fw fc len B c (wins wn)) → ((typeA (xs (i + 1).toNatClampNeg) tx).1 = 0 → g2 0 = (typeA (xs (i + 1).toNatClampNeg) tx).2.1.toInt64) → X 1149 (LL i x5 x6) [.int (typeA (xs (i + 1).toNatClampNeg) tx).1] (p5 sc s S R L tw fw fc len B c (wins wn) ++ mdU g P H X0 G f h g2) (cc, ss) := by
    intro sc s S R L tw fw fc len B c wn g2 hM hC hg
    refine go hX (fun pc => if pc = 1161 then some 7 else none) 40 ?_
    refine ⟨v1, ?_⟩
    refine Tr.ap eM pM (mc_type (g := g) (P := P) (H := H) (X := X0) (G := G) (f := f) (h := h) hA hL (fun g' P' H' X' G' f' h' hL' h3' => ?_)) rfl rfl rfl rfl
    exact pC sc s S R L tw fw fc len B c wn g' P' H' X' G' f' h' g2 hM hC hL' h3' hg
  obtain ⟨sc, s, S, R, L, tw, fw, fc, len, B, c, wn, rfl⟩ := cw_p5 Mc hC
  refine go hX (fun pc => if pc = 1149 then some 7 else none) 40 ?_
  refine ⟨v1, ?_⟩
  refine h_type (P := CW T a (typeA (xs (i + 1).toNatClampNeg) tx).2.2.length (fun k => (typeA (xs (i + 1).toNatClampNeg) tx).2.2.getD k 0)) cw_p5 hM (oc_type hC rfl (fun _ _ => rfl)) k_type (fun E M z => z) (fun M1 g2 hC1 hM1 hg => ?_)
  obtain ⟨sc, s, S, R, L, tw, fw, fc, len, B, c, wn, rfl⟩ := cw_p5 M1 hC1
  exact pB sc s S R L tw fw fc len B c wn g2 hM1 hC1 hg
set_option maxRecDepth 20000 in
theorem lc_undo (hX : Clo (kL_law Ls xs) Q X) (v1 : vp_in (i + 1) Ls) (v2 : vp_in (i + 2) Ls) (v3 : vp_in (i + 3) Ls) (hW : LW T a tx W) (hT : T + 200 < 2 ^ 31) (hn : ∀ T1 a1 tx1 W1, LW T1 a1 tx1 W1 → T1 ≤ T + 151 → ∀ x5 x6, X 1278 (LL i x5 x6) [] W1 (cc, ss)) : X 1220 (LL i x5 x6) [] W (cc + 1, ss + 6) := by
  obtain ⟨Mc, g, P, H, X0, G, f, h, g1, rfl, hM, hC, hA, hL⟩ := hW
  have pD : ∀ sc s S R L tw fw fc len B c wn g P H X0 G f h g2, mcl (p5 sc s S R L tw fw fc len B c (wins wn)) → CW T (undoA a).2.2 tx.length (fun k => tx.getD k 0) (p5 sc s S R L tw fw fc len B c (wins wn)) → LM (undoA a).2.2 tx g P X0 f → f 3 = (undoA a).1 → ((undoA a).1 = 0 → g2 0 = (undoA a).2.1.toInt64) → X 1237 (LL i (some (.int (undoA a).1)) (some (.int (undoA a).2.1))) [.int (f 3)] (p5 sc s S R L tw fw fc len B c (wins wn) ++ mdU g P H X0 G f h g2) (cc, ss) := by
    intro sc s S R L tw fw fc len B c wn g P H X0 G f h g2 hM hC hL h3 hg
    have hend : X 1278 (LL i (some (.int (undoA a).1)) (some (.int (undoA a).2.1))) [] (p5 sc s S R L tw fw fc len B c (wins wn) ++ mdU g P H X0 G f h g2) (cc, ss) := hn T (undoA a).2.2 tx _ ⟨_, _, _, _, _, _, _, _, _, rfl, hM, hC, ai_undo hA, hL⟩ (by omega) _ _
    refine go hX (fun pc => if pc = 1278 then some 7 else none) 40 ?_
    refine And.intro (fun _ => ?_) (fun z => absurd h3 z)
    refine And.intro (fun _ => hend) (fun hk0 => ⟨in_lit (by decide), And.intro (fun _ => hend) (fun z => absurd (lgc (hg hk0)) z)⟩)
  have pC : ∀ sc s S R L tw fw fc len B c wn g P H X0 G f h g2, mcl (p5 sc s S R L tw fw fc len B c (wins wn)) → CW T (undoA a).2.2 tx.length (fun k => tx.getD k 0) (p5 sc s S R L tw fw fc len B c (wins wn)) → LM (undoA a).2.2 tx g P X0 f → f 3 = (undoA a).1 → ((undoA a).1 = 0 → g2 0 = (undoA a).2.1.toInt64) → X 1231 (LL i (some (.int (undoA a).1)) x6) [.int (undoA a).2.1] (p5 sc s S R L tw fw fc len B c (wins wn) ++ mdU g P H X0 G f h g2) (cc, ss) := by
    intro sc s S R L tw fw fc len B c wn g P H X0 G f h g2 hM hC hL h3 hg
    refine go hX (fun pc => if pc = 1237 then some 7 else none) 40 ?_
    refine Tr.ap eM pM (m_thrown (g := g) (P := P) (H := H) (X := X0) (G := G) (f := f) (h := h) ?_) rfl rfl rfl rfl
    exact pD sc s S R L tw fw fc len B c wn g P H X0 G f h g2 hM hC hL h3 hg
  have pB : ∀ sc s S R L tw fw fc len B c wn g2, mcl (p5 sc s S R L tw fw fc len B c (wins wn)) → CW T (undoA a).2.2 tx.length (fun k => tx.getD k 0) (p5 sc s S R L tw fw fc len B c (wins wn)) → ((undoA a).1 = 0 → g2 0 = (undoA a).2.1.toInt64) → X 1225 (LL i x5 x6) [.int (undoA a).1] (p5 sc s S R L tw fw fc len B c (wins wn) ++ mdU g P H X0 G f h g2) (cc, ss) := by
    intro sc s S R L tw fw fc len B c wn g2 hM hC hg
    refine go hX (fun pc => if pc = 1231 then some 7 else none) 40 ?_
    refine Tr.ap eM pM (mc_undo (g := g) (P := P) (H := H) (X := X0) (G := G) (f := f) (h := h) hA hL (fun g' P' H' X' G' f' h' hL' h3' => ?_)) rfl rfl rfl rfl
    exact pC sc s S R L tw fw fc len B c wn g' P' H' X' G' f' h' g2 hM hC hL' h3' hg
  obtain ⟨sc, s, S, R, L, tw, fw, fc, len, B, c, wn, rfl⟩ := cw_p5 Mc hC
  refine go hX (fun pc => if pc = 1225 then some 7 else none) 40 ?_
  refine h_undo (P := CW T (undoA a).2.2 tx.length (fun k => tx.getD k 0)) cw_p5 hM (oc_undo hA hC) k_undo (fun E M z => z) (fun M1 g2 hC1 hM1 hg => ?_)
  obtain ⟨sc, s, S, R, L, tw, fw, fc, len, B, c, wn, rfl⟩ := cw_p5 M1 hC1
  exact pB sc s S R L tw fw fc len B c wn g2 hM1 hC1 hg
