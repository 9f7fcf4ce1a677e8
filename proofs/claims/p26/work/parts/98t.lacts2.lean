/-! ===== p26's law: its acts, second part ===== -/
variable {Q : AQ} {T t j : Nat} {G Qa La : Nat → Int32} {a : Kp} {Mc : AM} {X : WK} {z w : Int32}
theorem drop_eq {rs : List Rq} {k : Nat} (hk : k < rs.length) : rs = rs.take k ++ rs.getD k d0 :: rs.drop (k + 1) := by
  rw [List.getD_eq_getElem?_getD, List.getElem?_eq_getElem hk]
  show rs = rs.take k ++ rs[k] :: rs.drop (k + 1)
  rw [List.getElem_cons_drop]
  exact (List.take_append_drop k rs).symm
theorem drop_len {rs : List Rq} {k : Nat} (hk : k < rs.length) : (dropAt rs k).length = rs.length - 1 := by
  unfold dropAt
  rw [List.length_append, List.length_take, List.length_drop]
  omega
theorem q_drop {rs : List Rq} {k : Nat} {Q1 : Nat → Int32} (hk : k < rs.length) (h : QOk Qa rs) (h1 : ∀ i, i < 5 * k → Q1 i = Qa i) (h2 : ∀ i, 5 * k ≤ i → i < 5 * (rs.length - 1) → Q1 i = Qa (i + 5)) : QOk Q1 (dropAt rs k) := by
  have hl : (rs.take k).length = k := by rw [List.length_take]; omega
  have hd : (rs.drop (k + 1)).length = rs.length - (k + 1) := List.length_drop
  unfold dropAt
  refine q_gone (Qa := Qa) (r := rs.getD k d0) (by rw [← drop_eq hk]; exact h) (fun i hi => h1 i (by omega)) (fun i a1 a2 => h2 i (by omega) (by omega))
set_option maxRecDepth 20000 in
theorem ac_cancel (hX : Clo kL_acts Q X) (hS : LJ T t a G Qa La Mc) (ht : t ≤ 9000) (hTT : T + 100 < 2 ^ 31) (hj : j < 10000000) (hQ : AcQ Q T) : X 299 (acL z (nI j) w none none none none) [] (Mc ++ g3 G Qa La) (1, 6) := by
  obtain ⟨hM, hC, hA, hT, hL⟩ := hS
  obtain ⟨sc, s, S, R, L, tw, f, fc, len, B, c, wn, rfl⟩ := cw_p5 Mc hC
  have hI := hA.1
  have hlen := hI.2.1
  obtain ⟨w9, t9, -, e7, -, ht9, -⟩ := id hI.2.2.2.2
  have g7 : G 7 = nI t9 := (hT.1.1 7 (by decide)).trans e7
  have g21 : G 21 = nI a.1.2.1.length := hT.1.2.1
  have p317 : ∀ nb : Int32, X 317 (acL z (nI j) w (some (.int nb)) none none none) [.int (ix (fndL nb a.1.2.1))] (p5 sc s S R L tw f fc len B c (wins wn) ++ g3 G Qa La) (1, 6) := by
    intro nb
    cases hf : fndL nb a.1.2.1 with
    | none =>
      have e : cancelA true nb a = (1, 0, a) := by unfold cancelA; rw [hf]
      have ho := oc_cancel hA hC (x := nb)
      rw [e] at ho
      have p330 : ∀ Mc1 x8, CW T a 0 b0 Mc1 → mcl Mc1 → X 330 (acL z (nI j) w (some (.int nb)) x8 none none) [.int (-2000001)] (Mc1 ++ g3 G Qa La) (0, 0) := by
        intro Mc1 x8 hC1 hM1
        refine go hX (fun _ => none) 20 ?_
        refine And.intro (fun h => absurd rfl h) (fun _ => ⟨by decide, ?_⟩)
        exact hQ T t a Mc1 G Qa La (by omega) (by omega) ⟨hM1, hC1, hA, hT, hL⟩
      refine go hX (fun pc => if pc = 330 then some 11 else none) 20 ?_
      refine And.intro (fun h => absurd h (by decide)) (fun _ => ?_)
      refine h_cancels (P := CW T a 0 b0) cw_p5 hM ho (Or.inr rfl) (fun E M z => z) (fun Mc1 h1 h2 => ?_)
      rw [hvl_1]
      exact p330 Mc1 _ h1 h2
    | some k =>
      have hk := fndL_lt hf
      have e : cancelA true nb a = (0, a.1.1 6 - (a.1.2.1.getD k d0).2.2.2.2, ((a.1.1, dropAt a.1.2.1 k, a.1.2.2), keepK true a)) := by unfold cancelA; rw [hf]
      have ho := oc_cancel hA hC (x := nb)
      have hai := ai_cancel (sv := true) (x := nb) hA
      rw [e] at ho hai
      have v4 := qv (i := k) (j := 4) (N := 60) (by omega) (by decide) (by omega) (by decide)
      have c4 := qc (i := k) (j := 4) (by omega) (by decide)
      have eg : G 6 - Qa ((5 : Int32) * nI k + nI 4).toNatClampNeg = a.1.1 6 - (a.1.2.1.getD k d0).2.2.2.2 := by
        rw [c4, hT.1.1 6 (by decide), row_q hT.2.1 hk (j := 4) (by decide)]
        rfl
      have p363 : ∀ (ag : Int32) (G2 Q1 : Nat → Int32), ag = a.1.1 6 - (a.1.2.1.getD k d0).2.2.2.2 → TI G2 Q1 La (a.1.1, dropAt a.1.2.1 k, a.1.2.2) → X 363 (acL z (nI j) w (some (.int nb)) (some (.int (nI k))) (some (.int ag)) none) [] (p5 sc s S R L tw f fc len B c (wins wn) ++ g3 G2 Q1 La) (1, 6) := by
        intro ag G2 Q1 hag hT2
        have p369 : ∀ Mc1, CW T ((a.1.1, dropAt a.1.2.1 k, a.1.2.2), keepK true a) 0 b0 Mc1 → mcl Mc1 → X 369 (acL z (nI j) w (some (.int nb)) (some (.int (nI k))) (some (.int ag)) none) [.int (a.1.1 6 - (a.1.2.1.getD k d0).2.2.2.2)] (Mc1 ++ g3 G2 Q1 La) (0, 0) := by
          intro Mc1 hC1 hM1
          refine go hX (fun _ => none) 20 ?_
          refine And.intro (fun h => absurd hag.symm h) (fun _ => ⟨by decide, ?_⟩)
          exact hQ T t _ Mc1 G2 Q1 La (by omega) (by omega) ⟨hM1, hC1, hai, hT2, hL⟩
        refine go hX (fun pc => if pc = 369 then some 11 else none) 20 ?_
        refine h_cancels (P := CW T ((a.1.1, dropAt a.1.2.1 k, a.1.2.2), keepK true a) 0 b0) cw_p5 hM ho (Or.inl rfl) (fun E M z => z) (fun Mc1 h1 h2 => ?_)
        rw [hvl_0]
        exact p369 Mc1 h1 h2
      have p356 : ∀ ag : Int32, ag = a.1.1 6 - (a.1.2.1.getD k d0).2.2.2.2 → X 356 (acL z (nI j) w (some (.int nb)) (some (.int (nI k))) (some (.int ag)) none) [] (p5 sc s S R L tw f fc len B c (wins wn) ++ g3 G Qa La) (1, 6) := by
        intro ag hag
        refine go hX (fun pc => if pc = 363 then some 11 else none) 20 ?_
        refine Tr.ap eL pL (l_gone (G := G) (Qa := Qa) (La := La) (k := k) (n := a.1.2.1.length) g21 rfl hk hlen (fun Q1 h1 h2 => ?_)) rfl rfl rfl rfl
        refine p363 ag (upd G 21 (G 21 - 1)) Q1 hag ⟨⟨fun i hi => (upd_o (by omega)).trans (hT.1.1 i hi), upd_i.trans ?_, (upd_o (by decide)).trans hT.1.2.2⟩, q_drop hk hT.2.1 h1 h2, hT.2.2⟩
        show G 21 - 1 = nI (dropAt a.1.2.1 k).length
        rw [drop_len hk, g21]
        exact sub_nI (b := 1) (by omega)
      refine go hX (fun pc => if pc = 356 then some 11 else none) 30 ?_
      refine And.intro (fun _ => ⟨in_lit (by decide), v4, ?_⟩) (fun h => absurd (nI_pos' (by omega)) h)
      exact p356 _ eg
  have e1 : G 7 + 1 = nI (t9 + 1) := by rw [g7]; exact nI_1 t9
  refine go hX (fun pc => if pc = 317 then some 11 else none) 30 ?_
  refine ⟨in_lit (by decide), by rw [show G (Int32.toNatClampNeg 7) + 1 = G 7 + 1 from rfl, e1]; exact nI_ne0 (by omega) (by omega), ?_⟩
  refine Tr.ap eL pL (l_place (G := G) (Qa := Qa) (La := La) (rs := a.1.2.1) g21 hlen hT.2.1 ?_) rfl rfl rfl rfl
  exact p317 _
theorem li_upd {s : Sg} {i : Nat} {x : Int32} (hi : i < 4) (h : LI t s) : LI t (upd s.1 (2 + i) x, s.2) := by
  obtain ⟨h6, ⟨hh, h18, hb⟩, hl⟩ := h
  refine ⟨(upd_o (by omega)).trans h6, ⟨hh, (upd_o (by omega)).trans h18, hb⟩, fun e he => ?_⟩
  show _ % upd s.1 (2 + i) x 1 = _
  rw [upd_o (by omega)]
  exact hl e he
set_option maxRecDepth 20000 in
theorem ac_set (hX : Clo kL_acts Q X) (hS : LJ T t a G Qa La Mc) (ht : t ≤ 9500) (hj : j < 10000000) (hQ : AcQ Q T) : X 387 (acL z (nI j) w none none none none) [] (Mc ++ g3 G Qa La) (1, 6) := by
  obtain ⟨hM, hC, hA, hT, hL⟩ := hS
  obtain ⟨sc, s, S, R, L, tw, f, fc, len, B, c, wn, rfl⟩ := cw_p5 Mc hC
  have d4 : ¬ (4 : Int32) = 0 := by decide
  have d21 : ¬ (21 : Int32) = 0 := by decide
  have d40 : ¬ (40 : Int32) = 0 := by decide
  have d60 : ¬ (60 : Int32) = 0 := by decide
  have ek : nI j % 4 = nI (j % 4) := mod_nI (k := 4) (by omega) (by decide)
  have ed : nI j / 4 = nI (j / 4) := div_nI (k := 4) (by omega) (by decide)
  have l4 := litI
  have p393 : ∀ k : Nat, k < 4 → X 393 (acL z (nI j) w (some (.int (nI k))) none none none) [] (p5 sc s S R L tw f fc len B c (wins wn) ++ g3 G Qa La) (1, 6) := by
    intro k hk
    have e2 : (2 : Int32) + nI k = nI (2 + k) := nI_add 2 k
    have c2 : ((2 : Int32) + nI k).toNatClampNeg = 2 + k := by rw [e2]; exact nI_clamp (by omega)
    have v2 : vp_in ((2 : Int32) + nI k) 23 := by rw [e2]; exact in_nI (by omega) (by decide)
    have p462 : ∀ vv : Int32, setFit (nI k) vv = true → X 462 (acL z (nI j) w (some (.int (nI k))) (some (.int (G (2 + k)))) none none) [] (p5 sc s S R L tw f fc len B c (wins wn) ++ g3 (upd G (2 + k) vv) Qa La) (1, 6) := by
      intro vv hf
      have ckk : (nI k).toNatClampNeg = k := nI_clamp (by omega)
      have e : setA true (nI k) vv a = (0, a.1.1 (2 + k), ((upd a.1.1 (2 + k) vv, a.1.2), keepK true a)) := by
        unfold setA
        rw [if_pos hf, ckk]
      have ho := oc_set hA hC (w := nI k) (v := vv)
      have hai := ai_set (sv := true) (w := nI k) (v := vv) hA
      rw [e] at ho hai
      have hT2 : TI (upd G (2 + k) vv) Qa La (upd a.1.1 (2 + k) vv, a.1.2) := by
        refine ⟨⟨fun i hi => ?_, (upd_o (by omega)).trans hT.1.2.1, (upd_o (by omega)).trans hT.1.2.2⟩, hT.2.1, hT.2.2⟩
        show upd G (2 + k) vv i = upd a.1.1 (2 + k) vv i
        unfold upd
        split
        · rfl
        · exact hT.1.1 i hi
      have p474 : ∀ Mc1, CW T ((upd a.1.1 (2 + k) vv, a.1.2), keepK true a) 0 b0 Mc1 → mcl Mc1 → X 474 (acL z (nI j) w (some (.int (nI k))) (some (.int (G (2 + k)))) none none) [.int (a.1.1 (2 + k))] (Mc1 ++ g3 (upd G (2 + k) vv) Qa La) (0, 0) := by
        intro Mc1 hC1 hM1
        refine go hX (fun _ => none) 20 ?_
        refine And.intro (fun h => absurd (hT.1.1 (2 + k) (by omega)).symm h) (fun _ => ⟨by decide, ?_⟩)
        exact hQ T t _ Mc1 _ Qa La (by omega) (by omega) ⟨hM1, hC1, hai, hT2, li_upd hk hL⟩
      have ev : upd G (2 + k) vv ((2 : Int32) + nI k).toNatClampNeg = vv := by rw [c2]; exact upd_i
      refine go hX (fun pc => if pc = 474 then some 11 else none) 20 ?_
      refine ⟨v2, ?_⟩
      rw [ev]
      refine h_sets (P := CW T ((upd a.1.1 (2 + k) vv, a.1.2), keepK true a) 0 b0) cw_p5 hM ho (Or.inl rfl) (fun E M z => z) (fun Mc1 h1 h2 => ?_)
      rw [hvl_0]
      exact p474 Mc1 h1 h2
    have p461 : ∀ vv : Int32, setFit (nI k) vv = true → X 461 (acL z (nI j) w (some (.int (nI k))) (some (.int (G (2 + k)))) none none) [.int vv, .int ((2 : Int32) + nI k), .ref 83] (p5 sc s S R L tw f fc len B c (wins wn) ++ g3 G Qa La) (1, 6) := by
      intro vv hf
      refine go hX (fun pc => if pc = 462 then some 11 else none) 20 ?_
      refine ⟨v2, ?_⟩
      rw [c2]
      exact p462 vv hf
    have fit : ∀ m : Nat, k < 4 → (loT k).toInt ≤ (m : Int) → (m : Int) ≤ (hiT k).toInt → m < 1000 → setFit (nI k) (nI m) = true := fun m hk h1 h2 hm => by
      rw [setFit_j rfl hk]
      exact inI_t (Int32.le_iff_toInt_le.mpr (by rw [nI_toInt (by omega)]; exact h1)) (Int32.le_iff_toInt_le.mpr (by rw [nI_toInt (by omega)]; exact h2))
    have p401 : X 401 (acL z (nI j) w (some (.int (nI k))) (some (.int (G (2 + k)))) none none) [] (p5 sc s S R L tw f fc len B c (wins wn) ++ g3 G Qa La) (1, 6) := by
      have m4 : nI j / 4 % 4 = nI (j / 4 % 4) := by rw [ed]; exact mod_nI (k := 4) (by omega) (by decide)
      have m21 : nI j / 4 % 21 = nI (j / 4 % 21) := by rw [ed]; exact mod_nI (k := 21) (by omega) (by decide)
      have m40 : (5 : Int32) + nI j / 4 % 40 = nI (5 + j / 4 % 40) := by rw [ed, show nI (j / 4) % 40 = nI (j / 4 % 40) from mod_nI (k := 40) (by omega) (by decide)]; exact nI_add 5 _
      have m60 : nI j / 4 % 60 = nI (j / 4 % 60) := by rw [ed]; exact mod_nI (k := 60) (by omega) (by decide)
      refine go hX (fun pc => if pc = 461 then some 11 else none) 40 ?_
      refine And.intro (fun h => And.intro (fun h1 => And.intro (fun h2 => ⟨d4, d60, ?_⟩) (fun h2 => ⟨d4, d40, ?_⟩)) (fun h1 => ⟨d4, d21, ?_⟩)) (fun h => ⟨d4, d4, ?_⟩)
      · have k3 : k = 3 := by
          have n0 : ¬ k = 0 := fun q => h (by rw [q]; rfl)
          have n1 : ¬ k = 1 := fun q => h1 (by rw [q]; rfl)
          have n2 : ¬ k = 2 := fun q => h2 (by rw [q]; rfl)
          omega
        exact p461 _ (by rw [m60]; exact fit _ hk (by rw [k3]; show (0 : Int32).toInt ≤ _; rw [i32_0]; omega) (by rw [k3]; show _ ≤ (100 : Int32).toInt; rw [show ((100 : Int32).toInt) = 100 by decide]; omega) (by omega))
      · have k2 : k = 2 := (nI_eq (b := 2) (by omega) (by decide)).mp h2
        exact p461 _ (by rw [m40]; exact fit _ hk (by rw [k2]; show (5 : Int32).toInt ≤ _; rw [show ((5 : Int32).toInt) = 5 by decide]; omega) (by rw [k2]; show _ ≤ (200 : Int32).toInt; rw [show ((200 : Int32).toInt) = 200 by decide]; omega) (by omega))
      · have k1 : k = 1 := (nI_eq (b := 1) (by omega) (by decide)).mp h1
        exact p461 _ (by rw [m21]; exact fit _ hk (by rw [k1]; show (0 : Int32).toInt ≤ _; rw [i32_0]; omega) (by rw [k1]; show _ ≤ (20 : Int32).toInt; rw [show ((20 : Int32).toInt) = 20 by decide]; omega) (by omega))
      · have k0 : k = 0 := (nI_eq (b := 0) (by omega) (by decide)).mp h
        exact p461 _ (by rw [m4]; exact fit _ hk (by rw [k0]; show (0 : Int32).toInt ≤ _; rw [i32_0]; omega) (by rw [k0]; show _ ≤ (3 : Int32).toInt; rw [show ((3 : Int32).toInt) = 3 by decide]; omega) (by omega))
    refine go hX (fun pc => if pc = 401 then some 11 else none) 20 ?_
    refine ⟨v2, ?_⟩
    rw [c2]
    exact p401
  refine go hX (fun pc => if pc = 393 then some 11 else none) 20 ?_
  refine ⟨d4, ?_⟩
  rw [ek]
  exact p393 _ (by omega)
set_option maxRecDepth 20000 in
theorem ac_finish (hX : Clo kL_acts Q X) (hS : LJ T t a G Qa La Mc) (ht : t ≤ 9000) (hTT : T + 100 < 2 ^ 31) (hQ : AcQ Q T) {v : Int32} : X 492 (acL z v w none none none none) [] (Mc ++ g3 G Qa La) (1, 6) := by
  obtain ⟨hM, hC, hA, hT, hL⟩ := hS
  obtain ⟨sc, s, S, R, L, tw, f, fc, len, B, c, wn, rfl⟩ := cw_p5 Mc hC
  have hle := run_le 500 a.1
  have hlr := li_run 500 t a.1 hA.1 hL (by omega)
  have e : finishA true a = (0, nI (runS 500 a.1).1, ((runS 500 a.1).2, keepK true a)) := if_pos (by
    rw [hlr.1]
    exact Int32.le_iff_toInt_le.mpr (by rw [nI_toInt (by omega), show ((9999 : Int32).toInt) = 9999 by decide]; omega))
  have ho := oc_finish hA (by omega) hC
  have hai := ai_finish (sv := true) hA
  rw [e] at ho hai
  have p502 : ∀ Mc1 G1 Q1 L1, CW T ((runS 500 a.1).2, keepK true a) 0 b0 Mc1 → mcl Mc1 → TI G1 Q1 L1 (runS 500 a.1).2 → X 502 (acL z v w none none none none) [.int (nI (runS 500 a.1).1), .int (nI (runS 500 a.1).1)] (Mc1 ++ g3 G1 Q1 L1) (0, 0) := by
    intro Mc1 G1 Q1 L1 hC1 hM1 hT1
    refine go hX (fun _ => none) 20 ?_
    refine And.intro (fun h => absurd rfl h) (fun _ => ⟨by decide, ?_⟩)
    exact hQ T (t + (runS 500 a.1).1) _ Mc1 G1 Q1 L1 (by omega) (by omega) ⟨hM1, hC1, hai, hT1, hlr⟩
  have p496 : ∀ Mc1, CW T ((runS 500 a.1).2, keepK true a) 0 b0 Mc1 → mcl Mc1 → X 496 (acL z v w none none none none) [.int (nI (runS 500 a.1).1)] (Mc1 ++ g3 G Qa La) (0, 0) := by
    intro Mc1 hC1 hM1
    obtain ⟨sc, s, S, R, L, tw, f, fc, len, B, c, wn, rfl⟩ := cw_p5 Mc1 hC1
    refine go hX (fun pc => if pc = 502 then some 11 else none) 20 ?_
    refine Tr.ap eL pL (l_finish (G := G) (Qa := Qa) (La := La) hA.1 hL (by omega) hT (fun G1 Q1 L1 h1 => ?_)) rfl rfl rfl rfl
    exact p502 _ G1 Q1 L1 hC1 hM1 h1
  refine go hX (fun pc => if pc = 496 then some 11 else none) 20 ?_
  refine h_finishes (P := CW T ((runS 500 a.1).2, keepK true a) 0 b0) cw_p5 hM ho (Or.inl rfl) (fun E M z => z) (fun Mc1 h1 h2 => ?_)
  rw [hvl_0]
  exact p496 Mc1 h1 h2
set_option maxRecDepth 20000 in
theorem ac_pass (hX : Clo kL_acts Q X) (hS : LJ T t a G Qa La Mc) (ht : t ≤ 9000) (hTT : T + 100 < 2 ^ 31) (hj : j < 10000000) (hQ : AcQ Q T) : X 511 (acL z (nI j) w none none none none) [] (Mc ++ g3 G Qa La) (1, 6) := by
  obtain ⟨hM, hC, hA, hT, hL⟩ := hS
  obtain ⟨sc, s, S, R, L, tw, f, fc, len, B, c, wn, rfl⟩ := cw_p5 Mc hC
  have d5 : ¬ (5 : Int32) = 0 := by decide
  have p531 : ∀ n : Nat, 1 ≤ n → n ≤ 30 → X 531 (acL z (nI j) w (some (.int (nI n))) none none none) [] (p5 sc s S R L tw f fc len B c (wins wn) ++ g3 G Qa La) (1, 6) := by
    intro n hn1 hn2
    have cn : (nI n).toNatClampNeg = n := nI_clamp (by omega)
    have hlp := li_pass n t a.1 hA.1 hL (by omega)
    have e : passA true (nI n) a = (0, (passS n a.1).1 8 - a.1.1 8, (passS n a.1, keepK true a)) := by
      unfold passA
      rw [cn, if_pos (inI_t (Int32.le_iff_toInt_le.mpr (by rw [nI_toInt (by omega), i32_1]; omega)) (Int32.le_iff_toInt_le.mpr (by rw [nI_toInt (by omega), show ((99 : Int32).toInt) = 99 by decide]; omega))), if_pos (by
        rw [hL.1, nI_add]
        exact Int32.le_iff_toInt_le.mpr (by rw [nI_toInt (by omega), show ((9999 : Int32).toInt) = 9999 by decide]; omega))]
    have ho := oc_pass hA (by omega) hC (t := nI n)
    have hai := ai_pass (sv := true) (t := nI n) hA
    rw [e] at ho hai
    have p573 : ∀ G1 Q1 L1 x9, TI G1 Q1 L1 (passS n a.1) → X 573 (acL z (nI j) w (some (.int (nI n))) (some (.int (a.1.1 8))) x9 none) [] (p5 sc s S R L tw f fc len B c (wins wn) ++ g3 G1 Q1 L1) (1, 6) := by
      intro G1 Q1 L1 x9 hT1
      have p579 : ∀ Mc1, CW T (passS n a.1, keepK true a) 0 b0 Mc1 → mcl Mc1 → X 579 (acL z (nI j) w (some (.int (nI n))) (some (.int (a.1.1 8))) x9 none) [.int ((passS n a.1).1 8 - a.1.1 8)] (Mc1 ++ g3 G1 Q1 L1) (0, 0) := by
        intro Mc1 hC1 hM1
        have hend := hQ T (t + n) _ Mc1 G1 Q1 L1 (by omega) (by omega) ⟨hM1, hC1, hai, hT1, hlp⟩
        obtain ⟨sc, s, S, R, L, tw, f, fc, len, B, c, wn, rfl⟩ := cw_p5 Mc1 hC1
        refine go hX (fun _ => none) 20 ?_
        refine ⟨in_lit (by decide), And.intro (fun h => absurd ?_ h) (fun _ => ⟨by decide, hend⟩)⟩
        show _ = G1 8 - a.1.1 8
        rw [hT1.1.1 8 (by decide)]
      refine go hX (fun pc => if pc = 579 then some 11 else none) 20 ?_
      refine h_passes (P := CW T (passS n a.1, keepK true a) 0 b0) cw_p5 hM ho (Or.inl rfl) (fun E M z => z) (fun Mc1 h1 h2 => ?_)
      rw [hvl_0]
      exact p579 Mc1 h1 h2
    have p540 : ∀ (d i t1 : Nat) (s1 : Sg) (G1 Q1 L1 : Nat → Int32), i + d = n → t1 + d ≤ 20000 → Inv T s1 → LI t1 s1 → passS d s1 = passS n a.1 → TI G1 Q1 L1 s1 → X 540 (acL z (nI j) w (some (.int (nI n))) (some (.int (a.1.1 8))) (some (.int (nI i))) none) [] (p5 sc s S R L tw f fc len B c (wins wn) ++ g3 G1 Q1 L1) (1, 6) := by
      intro d
      induction d with
      | zero =>
        intro i t1 s1 G1 Q1 L1 hi ht1 hI1 hL1 he hT1
        refine go hX (fun pc => if pc = 573 then some 11 else none) 20 ?_
        refine And.intro (fun _ => p573 G1 Q1 L1 _ ?_) (fun h => absurd (nI_le (by omega) (by omega)) h)
        rw [← he]
        exact hT1
      | succ d ih =>
        intro i t1 s1 G1 Q1 L1 hi ht1 hI1 hL1 he hT1
        have p556 : ∀ G2 Q2 L2, TI G2 Q2 L2 (tickS s1) → X 556 (acL z (nI j) w (some (.int (nI n))) (some (.int (a.1.1 8))) (some (.int (nI i))) none) [.int 0, .int (a.1.1 8)] (p5 sc s S R L tw f fc len B c (wins wn) ++ g3 G2 Q2 L2) (1, 6) := by
          intro G2 Q2 L2 hT2
          refine go hX (fun pc => if pc = 540 then some 11 else none) 20 ?_
          refine And.intro (fun _ => ?_) (fun h => absurd rfl h)
          have := ih (i + 1) (t1 + 1) (tickS s1) G2 Q2 L2 (by omega) (by omega) (inv_tick hI1) (li_tick hI1 (by omega) hL1) he hT2
          rw [← nI_1] at this
          have e8 : a.1.1 8 + 0 = a.1.1 8 := Int32.add_zero _
          have this2 : X 540 (acL z (nI j) w (some (.int (nI n))) (some (.int (a.1.1 8 + 0))) (some (.int (nI i + 1))) none) [] (p5 sc s S R L tw f fc len B c (wins wn) ++ g3 G2 Q2 L2) (1, 6) := by
            rw [e8]
            exact this
          exact this2
        refine go hX (fun pc => if pc = 556 then some 11 else none) 20 ?_
        refine And.intro (fun h => absurd h (nI_ge (by omega) (by omega))) (fun _ => ?_)
        refine Tr.ap eL pL (l_tick (G := G1) (Qa := Q1) (La := L1) hI1 hL1 (by omega) hT1 (fun G2 Q2 L2 h2 => ?_)) rfl rfl rfl rfl
        exact p556 G2 Q2 L2 h2
    have e8 : G 8 = a.1.1 8 := hT.1.1 8 (by decide)
    refine go hX (fun pc => if pc = 540 then some 11 else none) 20 ?_
    refine ⟨in_lit (by decide), ?_⟩
    have := p540 n 0 t a.1 G Qa La (by omega) (by omega) hA.1 hL rfl hT
    rw [← e8] at this
    exact this
  have p527 : ∀ m : Nat, 0 < m → m ≤ 30 → X 527 (acL z (nI j) w none none none none) [.int (nI m), .int (nI j), .int 1] (p5 sc s S R L tw f fc len B c (wins wn) ++ g3 G Qa La) (1, 6) := by
    intro m h0 h1
    have e : (1 : Int32) + nI j % nI m = nI (1 + j % m) := by rw [mod_nI (by omega) (by omega)]; exact nI_add 1 _
    have hlt : j % m < m := Nat.mod_lt _ h0
    refine go hX (fun pc => if pc = 531 then some 11 else none) 20 ?_
    refine ⟨nI_ne0 h0 (by omega), ?_⟩
    have := p531 (1 + j % m) (by omega) (by omega)
    rw [← e] at this
    exact this
  refine go hX (fun pc => if pc = 527 then some 11 else none) 20 ?_
  exact ⟨d5, And.intro (fun _ => p527 5 (by decide) (by decide)) (fun _ => p527 30 (by decide) (by decide))⟩
set_option maxRecDepth 20000 in
theorem l_acts (hS : LJ T t a G Qa La Mc) (ht : t ≤ 9500) (hTT : T + 100 < 2 ^ 31) (hQ : AcQ Q T) : Tr tL_acts 1 6 [.ref 0, .ref 83, .ref 84, .ref 85, .int z] (Mc ++ g3 G Qa La) Q := by
  refine Tr.of sL_acts (by decide +kernel) (Nat.le_of_ble_eq_true rfl) fun X hX => ?_
  have g6 : G 6 = nI t := (hS.2.2.2.1.1.1 6 (by decide)).trans hS.2.2.2.2.1
  have n9 : (9000 : Int32) = nI 9000 := rfl
  have p34 : ∀ j (w : Int32), j < 10000000 → (¬ w = 0 → t ≤ 9000) → X 34 (acL z (nI j) w none none none none) [] (Mc ++ g3 G Qa La) (1, 6) := by
    intro j w hj hw
    refine go hX (fun pc => if pc = 39 then some 11 else if pc = 123 then some 11 else if pc = 299 then some 11 else if pc = 387 then some 11 else if pc = 492 then some 11 else if pc = 511 then some 11 else none) 20 ?_
    refine And.intro (fun h => And.intro (fun h1 => And.intro (fun h2 => And.intro (fun h3 => And.intro (fun h4 => ?_) (fun h4 => ?_)) (fun h3 => ?_)) (fun h2 => ?_)) (fun h1 => ?_)) (fun h => ?_)
    · exact ac_pass (X := X) hX hS (hw h) hTT hj hQ
    · exact ac_finish (X := X) hX hS (hw h) hTT hQ
    · exact ac_set (X := X) hX hS ht hj hQ
    · exact ac_cancel (X := X) hX hS (hw h) hTT hj hQ
    · exact ac_request (X := X) hX hS (hw h) hTT hj hQ
    · exact ac_plate (X := X) hX hS hj hQ
  have p11 : ∀ j, j < 10000000 → X 11 [some (.ref 0), some (.ref 83), some (.ref 84), some (.ref 85), some (.int z), some (.int (nI j)), none, none, none, none, none] [] (Mc ++ g3 G Qa La) (1, 6) := by
    intro j hj
    have p32 : ∀ w : Int32, (¬ w = 0 → t ≤ 9000) → X 32 [some (.ref 0), some (.ref 83), some (.ref 84), some (.ref 85), some (.int z), some (.int (nI j)), none, none, none, none, none] [.int w] (Mc ++ g3 G Qa La) (1, 6) := by
      intro w hw
      refine go hX (fun pc => if pc = 34 then some 11 else none) 20 ?_
      exact p34 j w hj hw
    obtain ⟨sc, s, S, R, L, tw, f, fc, len, B, c, wn, rfl⟩ := cw_p5 Mc hS.2.1
    refine go hX (fun pc => if pc = 32 then some 11 else none) 20 ?_
    refine ⟨in_lit (by decide), And.intro (fun h => ?_) (fun h => ?_)⟩
    · have h' : G 6 ≤ 9000 := h
      rw [g6, n9] at h'
      have h9 := (nI_leI (by omega) (by omega)).mp h'
      exact l_low (N := 24) rfl (by decide) (by decide) (fun i hi => p32 (nI i) (fun _ => h9))
    · exact p32 0 (fun z => absurd rfl z)
  refine go hX (fun pc => if pc = 11 then some 11 else none) 20 ?_
  exact l_low (N := 10000000) rfl (by decide) (by decide) (fun i hi => p11 i hi)
