/-! ===== p26's law: its acts, each upon the object and upon the law's own plate ===== -/
variable {Q : AQ} {T t j : Nat} {G Qa La : Nat → Int32} {a : Kp} {Mc : AM} {X : WK} {z w : Int32}
abbrev acL (z v w : Int32) (x7 x8 x9 x10 : Option Value) : AL := [some (.ref 0), some (.ref 83), some (.ref 84), some (.ref 85), some (.int z), some (.int v), some (.int w), x7, x8, x9, x10]
def AcQ (Q : AQ) (T : Nat) : Prop := ∀ (T1 t1 : Nat) (a1 : Kp) (Mc1 : AM) (G1 Q1 L1 : Nat → Int32), T1 ≤ T + 1 → t1 ≤ 9500 → LJ T1 t1 a1 G1 Q1 L1 Mc1 → Q (.inl (some (.int 1))) (Mc1 ++ g3 G1 Q1 L1)
theorem hvl_0 {v x y : Int32} : hvl 0 v x y = v := if_pos rfl
theorem hvl_1 {v x y : Int32} : hvl 1 v x y = x := (if_neg (by decide)).trans (if_pos rfl)
theorem hvl_2 {v x y : Int32} : hvl 2 v x y = y := (if_neg (by decide)).trans (if_neg (by decide))
theorem li_put {s : Sg} {x y : Int32} : LI 0 (putS s x y) := ⟨by rw [nI_0]; rfl, ⟨0, by rw [nI_0]; rfl, by omega⟩, fun e he => nomatch he⟩
set_option maxRecDepth 20000 in
theorem ac_plate (hX : Clo kL_acts Q X) (hS : LJ T t a G Qa La Mc) (hj : j < 10000000) (hQ : AcQ Q T) : X 39 (acL z (nI j) w none none none none) [] (Mc ++ g3 G Qa La) (1, 6) := by
  obtain ⟨hM, hC, hA, hT, hL⟩ := hS
  obtain ⟨sc, s, S, R, L, tw, f, fc, len, B, c, wn, rfl⟩ := cw_p5 Mc hC
  have h21 : ¬ (21 : Int32) = 0 := by decide
  have h10 : ¬ (10 : Int32) = 0 := by decide
  have p95 : ∀ G2 x8, TI G2 Qa La (putS a.1 (G2 0) (G2 1)) → plateFit (G2 0) (G2 1) = true → X 95 (acL z (nI j) w (some (.int (G 21))) x8 none none) [] (p5 sc s S R L tw f fc len B c (wins wn) ++ g3 G2 Qa La) (1, 6) := by
    intro G2 x8 hT2 hf
    have e : plateA true (G2 0) (G2 1) a = (0, nI a.1.2.1.length, (putS a.1 (G2 0) (G2 1), keepK true a)) := if_pos hf
    have ho := oc_plate hA hC (t := G2 0) (c1 := G2 1)
    have hai := ai_plate (sv := true) (t := G2 0) (c := G2 1) hA
    rw [e] at ho hai
    have p105 : ∀ Mc1, CW T (putS a.1 (G2 0) (G2 1), keepK true a) 0 b0 Mc1 → mcl Mc1 → X 105 (acL z (nI j) w (some (.int (G 21))) x8 none none) [.int (nI a.1.2.1.length)] (Mc1 ++ g3 G2 Qa La) (0, 0) := by
      intro Mc1 hC1 hM1
      refine go hX (fun _ => none) 20 ?_
      refine And.intro (fun h => absurd (hT.1.2.1).symm h) (fun _ => ⟨by decide, ?_⟩)
      exact hQ T 0 _ Mc1 G2 Qa La (by omega) (by omega) ⟨hM1, hC1, hai, hT2, li_put⟩
    refine go hX (fun pc => if pc = 105 then some 11 else none) 20 ?_
    refine ⟨in_lit (by decide), in_lit (by decide), ?_⟩
    refine h_plates (P := CW T (putS a.1 (G2 0) (G2 1), keepK true a) 0 b0) cw_p5 hM ho (Or.inl rfl) (fun E M z => z) (fun Mc1 h1 h2 => ?_)
    rw [hvl_0]
    exact p105 Mc1 h1 h2
  have p67 : ∀ G1 x8, (∀ i, 6 ≤ i → i < 23 → G1 i = 0) → (∀ i, i < 6 → G1 i = G i) → X 67 (acL z (nI j) w (some (.int (G 21))) x8 none none) [] (p5 sc s S R L tw f fc len B c (wins wn) ++ g3 G1 Qa La) (1, 6) := by
    intro G1 x8 g1 g2
    have e0 : (4 : Int32) + nI j % 21 = nI (4 + j % 21) := by rw [show (21 : Int32) = nI 21 from rfl, mod_nI (by omega) (by decide), show (4 : Int32) = nI 4 from rfl, nI_add]
    have e1 : (3 : Int32) + nI j / 21 % 10 = nI (3 + j / 21 % 10) := by rw [show (21 : Int32) = nI 21 from rfl, div_nI (by omega) (by decide), show (10 : Int32) = nI 10 from rfl, mod_nI (by omega) (by decide), show (3 : Int32) = nI 3 from rfl, nI_add]
    refine go hX (fun pc => if pc = 95 then some 11 else none) 40 ?_
    refine ⟨in_lit (by decide), h21, in_lit (by decide), h21, h10, in_lit (by decide), ?_⟩
    refine p95 (upd (upd (upd G1 20 1) 0 (4 + nI j % 21)) 1 (3 + nI j / 21 % 10)) x8 ⟨⟨fun k hk => ?_, ?_, ?_⟩, fun k r h => by simp [putS] at h, fun k r h => by simp [putS] at h⟩ ?_
    · show _ = putU a.1.1 _ _ k
      unfold putU
      by_cases k0 : k = 0
      · rw [if_pos k0, k0]
      · rw [if_neg k0]
        by_cases k1 : k = 1
        · rw [if_pos k1, k1]
        · rw [if_neg k1, upd_o k1, upd_o k0]
          by_cases k20 : k = 20
          · rw [if_pos k20, k20, upd_i]
          · rw [if_neg k20, upd_o k20]
            by_cases k6 : 6 ≤ k
            · rw [if_pos k6, g1 k k6 (by omega)]
            · rw [if_neg k6, g2 k (by omega), hT.1.1 k hk]
    · rw [upd_o (by decide), upd_o (by decide), upd_o (by decide), g1 21 (by decide) (by decide)]
      rfl
    · rw [upd_o (by decide), upd_o (by decide), upd_o (by decide), g1 22 (by decide) (by decide)]
      rfl
    · rw [show upd (upd (upd G1 20 1) 0 (4 + nI j % 21)) 1 (3 + nI j / 21 % 10) 0 = nI (4 + j % 21) by rw [upd_o (by decide), upd_i, e0], upd_i, e1]
      unfold plateFit
      have l4 := litI
      rw [inI_t (Int32.le_iff_toInt_le.mpr (by rw [nI_toInt (by omega), l4.1]; omega)) (Int32.le_iff_toInt_le.mpr (by rw [nI_toInt (by omega), l4.2.1]; omega)), inI_t (Int32.le_iff_toInt_le.mpr (by rw [nI_toInt (by omega), l4.2.2.1]; omega)) (Int32.le_iff_toInt_le.mpr (by rw [nI_toInt (by omega), l4.2.2.2.1]; omega))]
      rfl
  have p49 : ∀ (d k : Nat) (G1 : Nat → Int32), k + d = 23 → 6 ≤ k → (∀ i, 6 ≤ i → i < k → G1 i = 0) → (∀ i, i < 6 → G1 i = G i) → X 49 (acL z (nI j) w (some (.int (G 21))) (some (.int (nI k))) none none) [] (p5 sc s S R L tw f fc len B c (wins wn) ++ g3 G1 Qa La) (1, 6) := by
    intro d
    induction d with
    | zero =>
      intro k G1 hk h6 g1 g2
      refine go hX (fun pc => if pc = 67 then some 11 else none) 20 ?_
      exact And.intro (fun _ => p67 G1 _ (fun i h1 h2 => g1 i h1 (by omega)) g2) (fun h => absurd (nI_le (a := 23) (by omega) (by omega)) h)
    | succ d ih =>
      intro k G1 hk h6 g1 g2
      have c0 : (nI k).toNatClampNeg = k := nI_clamp (by omega)
      have p61 : ∀ G1, X 49 (acL z (nI j) w (some (.int (G 21))) (some (.int (nI k + 1))) none none) [] (p5 sc s S R L tw f fc len B c (wins wn) ++ g3 G1 Qa La) (1, 6) → X 61 (acL z (nI j) w (some (.int (G 21))) (some (.int (nI k))) none none) [] (p5 sc s S R L tw f fc len B c (wins wn) ++ g3 G1 Qa La) (1, 6) := by
        intro G1 hx
        refine go hX (fun pc => if pc = 49 then some 11 else none) 10 ?_
        exact hx
      refine go hX (fun pc => if pc = 61 then some 11 else none) 20 ?_
      refine And.intro (fun h => absurd h (nI_ge (b := 23) (by omega) (by decide))) (fun _ => ⟨in_nI (by omega) (by decide), ?_⟩)
      rw [c0]
      refine p61 (upd G1 k 0) ?_
      have := ih (k + 1) (upd G1 k 0) (by omega) (by omega) (fun i h1 h2 => by
        by_cases hi : i = k
        · rw [hi, upd_i]
        · rw [upd_o hi, g1 i h1 (by omega)]) (fun i hi => (upd_o (by omega)).trans (g2 i hi))
      rw [← nI_1] at this
      exact this
  refine go hX (fun pc => if pc = 49 then some 11 else none) 20 ?_
  exact ⟨in_lit (by decide), p49 17 6 G (by omega) (Nat.le_refl _) (fun i h1 h2 => by omega) (fun _ _ => rfl)⟩
theorem li_add {s : Sg} {x y zz : Int32} (h : LI t s) : LI t (addS s x y zz) := h
set_option maxRecDepth 20000 in
theorem ac_request (hX : Clo kL_acts Q X) (hS : LJ T t a G Qa La Mc) (ht : t ≤ 9000) (hTT : T + 100 < 2 ^ 31) (hj : j < 10000000) (hQ : AcQ Q T) : X 123 (acL z (nI j) w none none none none) [] (Mc ++ g3 G Qa La) (1, 6) := by
  obtain ⟨hM, hC, hA, hT, hL⟩ := hS
  obtain ⟨sc, s, S, R, L, tw, f, fc, len, B, c, wn, rfl⟩ := cw_p5 Mc hC
  have hI := hA.1
  have hlen := hI.2.1
  have u0 : 4 ≤ (a.1.1 0).toInt ∧ (a.1.1 0).toInt ≤ 24 := hI.1.1
  have u1 : 3 ≤ (a.1.1 1).toInt ∧ (a.1.1 1).toInt ≤ 12 := hI.1.2.1
  have g0 : G 0 = nI (a.1.1 0).toNatClampNeg := (hT.1.1 0 (by decide)).trans (of_clamp (by omega))
  have g1 : G 1 = nI (a.1.1 1).toNatClampNeg := (hT.1.1 1 (by decide)).trans (of_clamp (by omega))
  have n0 : (a.1.1 0).toNatClampNeg = (a.1.1 0).toInt.toNat := rfl
  have n1 : (a.1.1 1).toNatClampNeg = (a.1.1 1).toInt.toNat := rfl
  have g6 : G 6 = nI t := (hT.1.1 6 (by decide)).trans hL.1
  have g21 : G 21 = nI a.1.2.1.length := hT.1.2.1
  have p267 : ∀ (tr se de : Int32) (x10 : Option Value) (G2 Q2 : Nat → Int32), reqFit a.1.1 tr se de = true → ¬ a.1.2.1.length = 12 → TI G2 Q2 La (addS a.1 tr se de) → X 267 (acL z (nI j) w (some (.int tr)) (some (.int se)) (some (.int de)) x10) [] (p5 sc s S R L tw f fc len B c (wins wn) ++ g3 G2 Q2 La) (1, 6) := by
    intro tr se de x10 G2 Q2 hf h12 hT2
    have e : requestA true tr se de a = (0, a.1.1 7, (addS a.1 tr se de, keepK true a)) := (if_pos hf).trans (if_neg h12)
    have ho := oc_request hA hC (t := tr) (s := se) (d := de)
    have hai := ai_request (sv := true) (tr := tr) (se := se) (de := de) hA (by omega)
    rw [e] at ho hai
    have p277 : ∀ Mc1, CW (T + 1) (addS a.1 tr se de, keepK true a) 0 b0 Mc1 → mcl Mc1 → X 277 (acL z (nI j) w (some (.int tr)) (some (.int se)) (some (.int de)) x10) [.int (a.1.1 7)] (Mc1 ++ g3 G2 Q2 La) (0, 0) := by
      intro Mc1 hC1 hM1
      have e7 : a.1.1 7 = G2 7 - 1 := by
        rw [hT2.1.1 7 (by decide), show (addS a.1 tr se de).1 7 = a.1.1 7 + 1 from (upd_i (f := a.1.1) (i := 7) (x := a.1.1 7 + 1))]
        exact (Int32.add_sub_cancel _ _).symm
      have hend := hQ (T + 1) t _ Mc1 G2 Q2 La (by omega) (by omega) ⟨hM1, hC1, hai, hT2, li_add hL⟩
      obtain ⟨sc, s, S, R, L, tw, f, fc, len, B, c, wn, rfl⟩ := cw_p5 Mc1 hC1
      refine go hX (fun _ => none) 20 ?_
      exact ⟨in_lit (by decide), And.intro (fun h => absurd e7 h) (fun _ => ⟨by decide, hend⟩)⟩
    refine go hX (fun pc => if pc = 277 then some 11 else none) 20 ?_
    refine h_requests (P := CW (T + 1) (addS a.1 tr se de, keepK true a) 0 b0) cw_p5 hM ho (Or.inl rfl) (fun E M z => z) (fun Mc1 h1 h2 => ?_)
    rw [hvl_0]
    exact p277 Mc1 h1 h2
  have p171 : ∀ tr se de : Int32, reqFit a.1.1 tr se de = true → X 171 (acL z (nI j) w (some (.int tr)) (some (.int se)) (some (.int de)) none) [] (p5 sc s S R L tw f fc len B c (wins wn) ++ g3 G Qa La) (1, 6) := by
    intro tr se de hf
    have p180 : a.1.2.1.length = 12 → X 180 (acL z (nI j) w (some (.int tr)) (some (.int se)) (some (.int de)) none) [] (p5 sc s S R L tw f fc len B c (wins wn) ++ g3 G Qa La) (1, 6) := by
      intro h12
      have e : requestA true tr se de a = (2, 0, a) := (if_pos hf).trans (if_pos h12)
      have ho := oc_request hA hC (t := tr) (s := se) (d := de)
      have hai := ai_request (sv := true) (tr := tr) (se := se) (de := de) hA (by omega)
      rw [e] at ho hai
      have p190 : ∀ Mc1, CW (T + 1) a 0 b0 Mc1 → mcl Mc1 → X 190 (acL z (nI j) w (some (.int tr)) (some (.int se)) (some (.int de)) none) [.int (-2000003)] (Mc1 ++ g3 G Qa La) (0, 0) := by
        intro Mc1 hC1 hM1
        refine go hX (fun _ => none) 20 ?_
        refine And.intro (fun h => absurd rfl h) (fun _ => ⟨by decide, ?_⟩)
        exact hQ (T + 1) t a Mc1 G Qa La (by omega) (by omega) ⟨hM1, hC1, hai, hT, hL⟩
      refine go hX (fun pc => if pc = 190 then some 11 else none) 20 ?_
      refine h_requests (P := CW (T + 1) a 0 b0) cw_p5 hM ho (Or.inr (Or.inr rfl)) (fun E M z => z) (fun Mc1 h1 h2 => ?_)
      rw [hvl_2]
      exact p190 Mc1 h1 h2
    have p251 : ∀ (Q2 : Nat → Int32) (x10 : Option Value), ¬ a.1.2.1.length = 12 → QOk Q2 (a.1.2.1 ++ [(a.1.1 7, tr, se, de, a.1.1 6)]) → X 251 (acL z (nI j) w (some (.int tr)) (some (.int se)) (some (.int de)) x10) [] (p5 sc s S R L tw f fc len B c (wins wn) ++ g3 G Q2 La) (1, 6) := by
      intro Q2 x10 h12 hq2
      refine go hX (fun pc => if pc = 267 then some 11 else none) 20 ?_
      refine ⟨in_lit (by decide), in_lit (by decide), in_lit (by decide), in_lit (by decide), ?_⟩
      refine p267 tr se de x10 (upd (upd G 21 (G 21 + 1)) 7 (upd G 21 (G 21 + 1) 7 + 1)) Q2 hf h12 ⟨⟨fun k hk => ?_, ?_, ?_⟩, hq2, hT.2.2⟩
      · show _ = upd a.1.1 7 (a.1.1 7 + 1) k
        by_cases k7 : k = 7
        · rw [k7, upd_i, upd_i, upd_o (by decide), hT.1.1 7 (by decide)]
        · rw [upd_o k7, upd_o k7, upd_o (by omega), hT.1.1 k hk]
      · rw [upd_o (by decide), upd_i, g21]
        show nI a.1.2.1.length + 1 = nI (a.1.2.1 ++ [_]).length
        rw [List.length_append, List.length_singleton]
        exact nI_1 _
      · rw [upd_o (by decide), upd_o (by decide)]
        exact hT.1.2.2
    have p209 : ¬ a.1.2.1.length = 12 → X 209 (acL z (nI j) w (some (.int tr)) (some (.int se)) (some (.int de)) (some (.int (nI (5 * a.1.2.1.length))))) [] (p5 sc s S R L tw f fc len B c (wins wn) ++ g3 G Qa La) (1, 6) := by
      intro h12
      generalize hn : a.1.2.1.length = n at h12 hlen
      have c0 : (nI (5 * n)).toNatClampNeg = 5 * n := nI_clamp (by omega)
      have w0 : vp_in (nI (5 * n)) 60 := in_nI (by omega) (by decide)
      have cc : ∀ i : Nat, i < 5 → (nI (5 * n) + nI i).toNatClampNeg = 5 * n + i := fun i hi => by rw [nI_add]; exact nI_clamp (by omega)
      have ww : ∀ i : Nat, i < 5 → vp_in (nI (5 * n) + nI i) 60 := fun i hi => by rw [nI_add]; exact in_nI (by omega) (by decide)
      refine go hX (fun pc => if pc = 251 then some 11 else none) 60 ?_
      refine ⟨in_lit (by decide), w0, ww 1 (by decide), ww 2 (by decide), ww 3 (by decide), in_lit (by decide), ww 4 (by decide), ?_⟩
      have u5 := upd5 (f := Qa) (a := G 7) (b := tr) (c := se) (d := de) (e := G 6) c0 (cc 1 (by decide)) (cc 2 (by decide)) (cc 3 (by decide)) (cc 4 (by decide))
      refine p251 _ _ (by rw [hn]; exact h12) (fun k r hk i hi => ?_)
      by_cases hkn : k < n
      · rw [List.getElem?_append_left (by omega)] at hk
        exact (u5.2 (5 * k + i) (by omega)).trans (hT.2.1 k r hk i hi)
      · rw [List.getElem?_append_right (by omega), hn] at hk
        have hk2 : k = n := by
          have := (List.getElem?_eq_some_iff.mp hk).1
          rw [List.length_singleton] at this
          omega
        subst hk2
        rw [Nat.sub_self] at hk
        cases hk
        refine (u5.1 i hi).trans ?_
        rw [hT.1.1 7 (by decide), hT.1.1 6 (by decide)]
    refine go hX (fun pc => if pc = 180 then some 11 else if pc = 209 then some 11 else none) 20 ?_
    refine ⟨in_lit (by decide), And.intro (fun h => ⟨in_lit (by decide), ?_⟩) (fun h => ?_)⟩
    · have h' : ¬ G 21 = 12 := h
      have := p209 (fun z => h' (by rw [g21, z]; rfl))
      rw [← five_nI, ← g21] at this
      exact this
    · have h' : G 21 = 12 := h
      rw [g21] at h'
      exact p180 ((nI_eq (b := 12) (by omega) (by decide)).mp h')
  have p167 : ∀ (m : Nat) (tr se : Int32), 0 < m → m ≤ 300 → inI tr 0 (a.1.1 0 - 1) = true → inI se 0 (a.1.1 1 - 1) = true → X 167 (acL z (nI j) w (some (.int tr)) (some (.int se)) none none) [.int (nI m), .int (nI (j / 300)), .int (G 6)] (p5 sc s S R L tw f fc len B c (wins wn) ++ g3 G Qa La) (1, 6) := by
    intro m tr se hm0 hm htr hse
    have e : G 6 + nI (j / 300) % nI m = nI (t + j / 300 % m) := by rw [g6, mod_nI (by omega) (by omega), nI_add]
    have hlt : j / 300 % m < m := Nat.mod_lt _ hm0
    refine go hX (fun pc => if pc = 171 then some 11 else none) 20 ?_
    refine ⟨nI_ne0 hm0 (by omega), p171 tr se _ ?_⟩
    unfold reqFit
    rw [htr, hse, e]
    have l9 : ((9999 : Int32).toInt) = 9999 := by decide
    rw [inI_t (Int32.le_iff_toInt_le.mpr (by rw [nI_toInt (by omega), i32_0]; omega)) (Int32.le_iff_toInt_le.mpr (by rw [nI_toInt (by omega), l9]; omega))]
    rfl
  have nn : ∀ {x u : Int32} {m N : Nat}, x = nI m → u.toInt = (N : Int) → m < N → N ≤ 100 → inI x 0 (u - 1) = true := fun {x u m N} hx hu hm hN => by
    have e1 : (u - 1).toInt = u.toInt - 1 := by rw [sub_in (by rw [i32_1]; omega) (by rw [i32_1]; omega), i32_1]
    exact inI_t (Int32.le_iff_toInt_le.mpr (by rw [hx, nI_toInt (by omega), i32_0]; omega)) (Int32.le_iff_toInt_le.mpr (by rw [hx, nI_toInt (by omega), e1]; omega))
  have e0 : nI j % G 0 = nI (j % (a.1.1 0).toNatClampNeg) := by rw [g0, mod_nI (by omega) (by omega)]
  have e1 : nI j / 24 % G 1 = nI (j / 24 % (a.1.1 1).toNatClampNeg) := by rw [g1, show (24 : Int32) = nI 24 from rfl, div_nI (by omega) (by decide), mod_nI (by omega) (by omega)]
  have e3 : nI j / 300 = nI (j / 300) := div_nI (k := 300) (by omega) (by decide)
  have hf0 : inI (nI j % G 0) 0 (a.1.1 0 - 1) = true := nn (N := (a.1.1 0).toNatClampNeg) e0 (by omega) (Nat.mod_lt _ (by omega)) (by omega)
  have hf1 : inI (nI j / 24 % G 1) 0 (a.1.1 1 - 1) = true := nn (N := (a.1.1 1).toNatClampNeg) e1 (by omega) (Nat.mod_lt _ (by omega)) (by omega)
  refine go hX (fun pc => if pc = 167 then some 11 else none) 60 ?_
  have d24 : ¬ (24 : Int32) = 0 := by decide
  have d300 : ¬ (300 : Int32) = 0 := by decide
  have d3 : ¬ (3 : Int32) = 0 := by decide
  have g0n : ¬ G 0 = 0 := by rw [g0]; exact nI_ne0 (by omega) (by omega)
  have g1n : ¬ G 1 = 0 := by rw [g1]; exact nI_ne0 (by omega) (by omega)
  refine ⟨in_lit (by decide), g0n, d24, in_lit (by decide), g1n, in_lit (by decide), d300, d3, And.intro (fun h => ?_) (fun h => ?_)⟩
  · have := p167 40 _ _ (by decide) (by decide) hf0 hf1
    rw [← e3] at this
    exact this
  · have := p167 300 _ _ (by decide) (by decide) hf0 hf1
    rw [← e3] at this
    exact this
