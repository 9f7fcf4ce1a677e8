/-! ===== the law's loop: the calls of each kind ===== -/
variable {X : WK} {Q : AQ} {Ls T cc ss : Nat} {xs : Nat → Int32} {a : Kp} {tx : List Int32} {W : AM} {i : Int32} {x5 x6 : Option Value}
theorem OT.pre {d : TrD} {ar : List Value} {M N : AM} {P : AM → Prop} {o : AR} {mc ms : Nat} (h : OT d ar M P o) (ho : ∀ f, upr f o = o) (hl : M.length = 83) (hM : mcl M) (ha : scl 83 ar) (hP : ∀ M1, P M1 → M1.length = 83) (hQ : ∀ M1, P M1 → mcl M1 → Q o (M1 ++ N)) : Tr d mc ms ar (M ++ N) Q :=
  Tr.pre (Q := fun o1 M1 => o1 = o ∧ P M1) (h _ _ _ fun M1 hp => ⟨rfl, hp⟩) hl (by decide +kernel) hM ha (fun o1 M1 q hc => by
    rw [q.1]
    exact ⟨hP M1 q.2, ho, hQ M1 q.2 hc⟩)
set_option maxRecDepth 20000 in
theorem lc_bestWay (hX : Clo (kL_law Ls xs) Q X) (hW : LW T a tx W) (hT : T + 200 < 2 ^ 31) (hn : ∀ T1 a1 tx1 W1, LW T1 a1 tx1 W1 → T1 ≤ T + 151 → ∀ x5 x6, X 1278 (LL i x5 x6) [] W1 (cc, ss)) : X 1000 (LL i x5 x6) [] W (cc, ss) := by
  obtain ⟨Mc, g, P, H, X0, G, f, h, g1, rfl, hM, hC, hA, hL⟩ := hW
  have hn150 : tx.length ≤ 150 := hL.2.2.1.2.1
  have pB : ∀ sc s S R L tw fw fc len B c wn g P H X1 G f h, mcl (p5 sc s S R L tw fw fc len B c (wins wn)) → CW T a tx.length (fun k => tx.getD k 0) (p5 sc s S R L tw fw fc len B c (wins wn)) → LM a tx g P X1 f → X 1008 (LL i x5 x6) [.int (nI (bestM a.1 4)), .int (nI (bestM a.1 4))] (p5 sc s S R L tw fw fc len B c (wins wn) ++ mdU g P H X1 G f h g1) (cc, ss) := by
    intro sc s S R L tw fw fc len B c wn g P H X1 G f h hM hC hL'
    have hend : X 1278 (LL i x5 x6) [] (p5 sc s S R L tw fw fc len B c (wins wn) ++ mdU g P H X1 G f h g1) (cc, ss) := hn T a tx _ ⟨_, _, _, _, _, _, _, _, _, rfl, hM, hC, hA, hL'⟩ (by omega) _ _
    refine go hX (fun pc => if pc = 1278 then some 7 else none) 20 ?_
    exact And.intro (fun _ => hend) (fun z => absurd rfl z)
  have pA : ∀ sc s S R L tw fw fc len B c wn, mcl (p5 sc s S R L tw fw fc len B c (wins wn)) → CW T a tx.length (fun k => tx.getD k 0) (p5 sc s S R L tw fw fc len B c (wins wn)) → X 1004 (LL i x5 x6) [.int (nI (bestM a.1 4))] (p5 sc s S R L tw fw fc len B c (wins wn) ++ mdU g P H X0 G f h g1) (cc, ss) := by
    intro sc s S R L tw fw fc len B c wn hM hC
    refine go hX (fun pc => if pc = 1008 then some 7 else none) 20 ?_
    refine Tr.ap eM pM (mc_bestWay (g := g) (P := P) (H := H) (X := X0) (G := G) (f := f) (h := h) hA hL (fun g' P' H' X' G' f' h' hL' h3' => ?_)) rfl rfl rfl rfl
    exact pB sc s S R L tw fw fc len B c wn g' P' H' X' G' f' h' hM hC hL'
  obtain ⟨sc, s, S, R, L, tw, fw, fc, len, B, c, wn, rfl⟩ := cw_p5 Mc hC
  refine go hX (fun pc => if pc = 1004 then some 7 else none) 20 ?_
  refine OT.pre (ot_bestWay hA (by omega) hC) (fun _ => rfl) rfl hM (scl_1 (by decide)) cw_p5.sz (fun M1 hC1 hM1 => ?_)
  obtain ⟨sc, s, S, R, L, tw, fw, fc, len, B, c, wn, rfl⟩ := cw_p5 M1 hC1
  exact pA sc s S R L tw fw fc len B c wn hM1 hC1
set_option maxRecDepth 20000 in
theorem lc_widest (hX : Clo (kL_law Ls xs) Q X) (hW : LW T a tx W) (hT : T + 200 < 2 ^ 31) (hn : ∀ T1 a1 tx1 W1, LW T1 a1 tx1 W1 → T1 ≤ T + 151 → ∀ x5 x6, X 1278 (LL i x5 x6) [] W1 (cc, ss)) : X 1069 (LL i x5 x6) [] W (cc, ss) := by
  obtain ⟨Mc, g, P, H, X0, G, f, h, g1, rfl, hM, hC, hA, hL⟩ := hW
  have hn150 : tx.length ≤ 150 := hL.2.2.1.2.1
  have pB : ∀ sc s S R L tw fw fc len B c wn g P H X1 G f h, mcl (p5 sc s S R L tw fw fc len B c (wins wn)) → CW T a tx.length (fun k => tx.getD k 0) (p5 sc s S R L tw fw fc len B c (wins wn)) → LM a tx g P X1 f → X 1077 (LL i x5 x6) [.int (spreadV (fun k => (rqF a.1.2.1 k).2.1) a.1.2.1.length), .int (spreadV (fun k => (rqF a.1.2.1 k).2.1) a.1.2.1.length)] (p5 sc s S R L tw fw fc len B c (wins wn) ++ mdU g P H X1 G f h g1) (cc, ss) := by
    intro sc s S R L tw fw fc len B c wn g P H X1 G f h hM hC hL'
    have hend : X 1278 (LL i x5 x6) [] (p5 sc s S R L tw fw fc len B c (wins wn) ++ mdU g P H X1 G f h g1) (cc, ss) := hn T a tx _ ⟨_, _, _, _, _, _, _, _, _, rfl, hM, hC, hA, hL'⟩ (by omega) _ _
    refine go hX (fun pc => if pc = 1278 then some 7 else none) 20 ?_
    exact And.intro (fun _ => hend) (fun z => absurd rfl z)
  have pA : ∀ sc s S R L tw fw fc len B c wn, mcl (p5 sc s S R L tw fw fc len B c (wins wn)) → CW T a tx.length (fun k => tx.getD k 0) (p5 sc s S R L tw fw fc len B c (wins wn)) → X 1073 (LL i x5 x6) [.int (spreadV (fun k => (rqF a.1.2.1 k).2.1) a.1.2.1.length)] (p5 sc s S R L tw fw fc len B c (wins wn) ++ mdU g P H X0 G f h g1) (cc, ss) := by
    intro sc s S R L tw fw fc len B c wn hM hC
    refine go hX (fun pc => if pc = 1077 then some 7 else none) 20 ?_
    refine Tr.ap eM pM (mc_widest (g := g) (P := P) (H := H) (X := X0) (G := G) (f := f) (h := h) hA hL (fun g' P' H' X' G' f' h' hL' h3' => ?_)) rfl rfl rfl rfl
    exact pB sc s S R L tw fw fc len B c wn g' P' H' X' G' f' h' hM hC hL'
  obtain ⟨sc, s, S, R, L, tw, fw, fc, len, B, c, wn, rfl⟩ := cw_p5 Mc hC
  refine go hX (fun pc => if pc = 1073 then some 7 else none) 20 ?_
  refine OT.pre (ot_widest hA hC) (fun _ => rfl) rfl hM (scl_1 (by decide)) cw_p5.sz (fun M1 hC1 hM1 => ?_)
  obtain ⟨sc, s, S, R, L, tw, fw, fc, len, B, c, wn, rfl⟩ := cw_p5 M1 hC1
  exact pA sc s S R L tw fw fc len B c wn hM1 hC1
set_option maxRecDepth 20000 in
theorem lc_clearCommands (hX : Clo (kL_law Ls xs) Q X) (hW : LW T a tx W) (hT : T + 200 < 2 ^ 31) (hn : ∀ T1 a1 tx1 W1, LW T1 a1 tx1 W1 → T1 ≤ T + 151 → ∀ x5 x6, X 1278 (LL i x5 x6) [] W1 (cc, ss)) : X 1194 (LL i x5 x6) [] W (cc, ss) := by
  obtain ⟨Mc, g, P, H, X0, G, f, h, g1, rfl, hM, hC, hA, hL⟩ := hW
  have hn150 : tx.length ≤ 150 := hL.2.2.1.2.1
  have pB : ∀ sc s S R L tw fw fc len B c wn g P H X1 G f h, mcl (p5 sc s S R L tw fw fc len B c (wins wn)) → CW T a ([] : List Int32).length (fun k => ([] : List Int32).getD k 0) (p5 sc s S R L tw fw fc len B c (wins wn)) → LM a ([] : List Int32) g P X1 f → X 1202 (LL i x5 x6) [.int (nI tx.length), .int (nI tx.length)] (p5 sc s S R L tw fw fc len B c (wins wn) ++ mdU g P H X1 G f h g1) (cc, ss) := by
    intro sc s S R L tw fw fc len B c wn g P H X1 G f h hM hC hL'
    have hend : X 1278 (LL i x5 x6) [] (p5 sc s S R L tw fw fc len B c (wins wn) ++ mdU g P H X1 G f h g1) (cc, ss) := hn T a ([] : List Int32) _ ⟨_, _, _, _, _, _, _, _, _, rfl, hM, hC, hA, hL'⟩ (by omega) _ _
    refine go hX (fun pc => if pc = 1278 then some 7 else none) 20 ?_
    exact And.intro (fun _ => hend) (fun z => absurd rfl z)
  have pA : ∀ sc s S R L tw fw fc len B c wn, mcl (p5 sc s S R L tw fw fc len B c (wins wn)) → CW T a ([] : List Int32).length (fun k => ([] : List Int32).getD k 0) (p5 sc s S R L tw fw fc len B c (wins wn)) → X 1198 (LL i x5 x6) [.int (nI tx.length)] (p5 sc s S R L tw fw fc len B c (wins wn) ++ mdU g P H X0 G f h g1) (cc, ss) := by
    intro sc s S R L tw fw fc len B c wn hM hC
    refine go hX (fun pc => if pc = 1202 then some 7 else none) 20 ?_
    refine Tr.ap eM pM (mc_clear (g := g) (P := P) (H := H) (X := X0) (G := G) (f := f) (h := h) hA hL (fun g' P' H' X' G' f' h' hL' h3' => ?_)) rfl rfl rfl rfl
    exact pB sc s S R L tw fw fc len B c wn g' P' H' X' G' f' h' hM hC hL'
  obtain ⟨sc, s, S, R, L, tw, fw, fc, len, B, c, wn, rfl⟩ := cw_p5 Mc hC
  refine go hX (fun pc => if pc = 1198 then some 7 else none) 20 ?_
  refine OT.pre (ot_clear hC) (fun _ => rfl) rfl hM (scl_1 (by decide)) cw_p5.sz (fun M1 hC1 hM1 => ?_)
  obtain ⟨sc, s, S, R, L, tw, fw, fc, len, B, c, wn, rfl⟩ := cw_p5 M1 hC1
  exact pA sc s S R L tw fw fc len B c wn hM1 (hC1.congr (fun k hk => absurd hk (Nat.not_lt_zero k)))
set_option maxRecDepth 20000 in
theorem lc_runCommands (hX : Clo (kL_law Ls xs) Q X) (hW : LW T a tx W) (hT : T + 200 < 2 ^ 31) (hn : ∀ T1 a1 tx1 W1, LW T1 a1 tx1 W1 → T1 ≤ T + 151 → ∀ x5 x6, X 1278 (LL i x5 x6) [] W1 (cc, ss)) : X 1207 (LL i x5 x6) [] W (cc, ss) := by
  obtain ⟨Mc, g, P, H, X0, G, f, h, g1, rfl, hM, hC, hA, hL⟩ := hW
  have hn150 : tx.length ≤ 150 := hL.2.2.1.2.1
  have pB : ∀ sc s S R L tw fw fc len B c wn g P H X1 G f h, mcl (p5 sc s S R L tw fw fc len B c (wins wn)) → CW (T + tx.length) (runA tx.length X0 a).2 tx.length (fun k => tx.getD k 0) (p5 sc s S R L tw fw fc len B c (wins wn)) → LM (runA tx.length X0 a).2 tx g P X1 f → X 1215 (LL i x5 x6) [.int (runA tx.length X0 a).1, .int (runA tx.length X0 a).1] (p5 sc s S R L tw fw fc len B c (wins wn) ++ mdU g P H X1 G f h g1) (cc, ss) := by
    intro sc s S R L tw fw fc len B c wn g P H X1 G f h hM hC hL'
    have hend : X 1278 (LL i x5 x6) [] (p5 sc s S R L tw fw fc len B c (wins wn) ++ mdU g P H X1 G f h g1) (cc, ss) := hn (T + tx.length) (runA tx.length X0 a).2 tx _ ⟨_, _, _, _, _, _, _, _, _, rfl, hM, hC, ai_run hA (by omega), hL'⟩ (by omega) _ _
    refine go hX (fun pc => if pc = 1278 then some 7 else none) 20 ?_
    exact And.intro (fun _ => hend) (fun z => absurd rfl z)
  have pA : ∀ sc s S R L tw fw fc len B c wn, mcl (p5 sc s S R L tw fw fc len B c (wins wn)) → CW (T + tx.length) (runA tx.length X0 a).2 tx.length (fun k => tx.getD k 0) (p5 sc s S R L tw fw fc len B c (wins wn)) → X 1211 (LL i x5 x6) [.int (runA tx.length X0 a).1] (p5 sc s S R L tw fw fc len B c (wins wn) ++ mdU g P H X0 G f h g1) (cc, ss) := by
    intro sc s S R L tw fw fc len B c wn hM hC
    refine go hX (fun pc => if pc = 1215 then some 7 else none) 20 ?_
    refine Tr.ap eM pM (mc_run (g := g) (P := P) (H := H) (X := X0) (G := G) (f := f) (h := h) hA hT hL (fun g' P' H' X' G' f' h' hL' h3' => ?_)) rfl rfl rfl rfl
    exact pB sc s S R L tw fw fc len B c wn g' P' H' X' G' f' h' hM hC hL'
  obtain ⟨sc, s, S, R, L, tw, fw, fc, len, B, c, wn, rfl⟩ := cw_p5 Mc hC
  refine go hX (fun pc => if pc = 1211 then some 7 else none) 20 ?_
  refine OT.pre (ot_run hA (hC.congr (fun k hk => (hL.2.2.1.2.2 k hk).symm)) (by omega)) (fun _ => rfl) rfl hM (scl_1 (by decide)) cw_p5.sz (fun M1 hC1 hM1 => ?_)
  obtain ⟨sc, s, S, R, L, tw, fw, fc, len, B, c, wn, rfl⟩ := cw_p5 M1 hC1
  exact pA sc s S R L tw fw fc len B c wn hM1 (hC1.congr (fun k hk => hL.2.2.1.2.2 k hk))
set_option maxRecDepth 20000 in
theorem lc_digest (hX : Clo (kL_law Ls xs) Q X) (hW : LW T a tx W) (hT : T + 200 < 2 ^ 31) (hn : ∀ T1 a1 tx1 W1, LW T1 a1 tx1 W1 → T1 ≤ T + 151 → ∀ x5 x6, X 1278 (LL i x5 x6) [] W1 (cc, ss)) : X 1264 (LL i x5 x6) [] W (cc, ss) := by
  obtain ⟨Mc, g, P, H, X0, G, f, h, g1, rfl, hM, hC, hA, hL⟩ := hW
  have hn150 : tx.length ≤ 150 := hL.2.2.1.2.1
  have pB : ∀ sc s S R L tw fw fc len B c wn g P H X1 G f h, mcl (p5 sc s S R L tw fw fc len B c (wins wn)) → CW T a tx.length (fun k => tx.getD k 0) (p5 sc s S R L tw fw fc len B c (wins wn)) → LM a tx g P X1 f → X 1272 (LL i x5 x6) [.long (dgA a.1 (nI a.2.length) (nI tx.length)), .long (dgA a.1 (nI a.2.length) (nI tx.length))] (p5 sc s S R L tw fw fc len B c (wins wn) ++ mdU g P H X1 G f h g1) (cc, ss) := by
    intro sc s S R L tw fw fc len B c wn g P H X1 G f h hM hC hL'
    have hend : X 1278 (LL i x5 x6) [] (p5 sc s S R L tw fw fc len B c (wins wn) ++ mdU g P H X1 G f h g1) (cc, ss) := hn T a tx _ ⟨_, _, _, _, _, _, _, _, _, rfl, hM, hC, hA, hL'⟩ (by omega) _ _
    refine go hX (fun pc => if pc = 1278 then some 7 else none) 20 ?_
    exact And.intro (fun _ => hend) (fun z => absurd (lgc rfl) z)
  have pA : ∀ sc s S R L tw fw fc len B c wn, mcl (p5 sc s S R L tw fw fc len B c (wins wn)) → CW T a tx.length (fun k => tx.getD k 0) (p5 sc s S R L tw fw fc len B c (wins wn)) → X 1268 (LL i x5 x6) [.long (dgA a.1 (nI a.2.length) (nI tx.length))] (p5 sc s S R L tw fw fc len B c (wins wn) ++ mdU g P H X0 G f h g1) (cc, ss) := by
    intro sc s S R L tw fw fc len B c wn hM hC
    refine go hX (fun pc => if pc = 1272 then some 7 else none) 20 ?_
    refine Tr.ap eM pM (mc_digest (g := g) (P := P) (H := H) (X := X0) (G := G) (f := f) (h := h) hA hL (fun g' P' H' X' G' f' h' hL' h3' => ?_)) rfl rfl rfl rfl
    exact pB sc s S R L tw fw fc len B c wn g' P' H' X' G' f' h' hM hC hL'
  obtain ⟨sc, s, S, R, L, tw, fw, fc, len, B, c, wn, rfl⟩ := cw_p5 Mc hC
  refine go hX (fun pc => if pc = 1268 then some 7 else none) 20 ?_
  refine OT.pre (ot_digest hA (by omega) hC) (fun _ => rfl) rfl hM (scl_1 (by decide)) cw_p5.sz (fun M1 hC1 hM1 => ?_)
  obtain ⟨sc, s, S, R, L, tw, fw, fc, len, B, c, wn, rfl⟩ := cw_p5 M1 hC1
  exact pA sc s S R L tw fw fc len B c wn hM1 hC1
