/-! ===== p26's law: a tick, its readings ===== -/
variable {Q : AQ} {T c d : Nat} {s : Sg} {G Qa La u v : Nat → Int32} {M : AM} {X : WK} {num was fa : Int32} {to : Int32} {x6 x9 x10 : Option Value}
def hv (v : Nat → Int32) (rd : Bool) (r : Rq) : Bool := rd && hitS v r
theorem log_push {lga : List Rq} {e : Rq} {L3 : Nat → Int32} (h0 : ∀ j, j < 5 → L3 j = rf e j) (h1 : ∀ i, 5 ≤ i → i < 50 → L3 i = La (i - 5)) (hl : QOk La lga) : QOk L3 ((e :: lga).take 10) := by
  intro b x hb j hj
  rw [List.getElem?_take] at hb
  split at hb
  · rename_i hb10
    cases b with
    | zero =>
      cases hb
      rw [show 5 * 0 + j = j by omega]
      exact h0 j hj
    | succ b =>
      have hb2 : lga[b]? = some x := hb
      rw [h1 _ (by omega) (by omega), show 5 * (b + 1) + j - 5 = 5 * b + j by omega]
      exact hl b x hb2 j hj
  · cases hb
set_option maxRecDepth 20000 in
theorem tk_300 (hX : Clo kL_tick Q X) {kk : Int32} (hc : ∀ L1 x10, (∀ i, 5 ≤ i → i < 50 → L1 i = La (i - 5)) → X 322 (tkL num to x6 was fa (some (.int kk)) x10) [] (g3 G Qa L1) (0, 0)) : ∀ (d : Nat) (L1 : Nat → Int32), d ≤ 45 → (∀ i, d + 4 < i → i < 50 → L1 i = La (i - 5)) → (∀ i, i ≤ d + 4 → L1 i = La i) → X 300 (tkL num to x6 was fa (some (.int kk)) (some (.int (nI (d + 4))))) [] (g3 G Qa L1) (0, 0) := by
  intro d
  induction d with
  | zero =>
    intro L1 hd a1 a2
    refine go hX (fun pc => if pc = 322 then some 11 else none) 30 ?_
    exact And.intro (fun _ => hc _ _ (fun i h1 h2 => a1 i (by omega) h2)) (fun h => absurd (by decide) h)
  | succ d ih =>
    intro L1 hd a1 a2
    have e5 : nI (d + 1 + 4) - 5 = nI (d + 1 + 4 - 5) := sub_nI (a := d + 1 + 4) (b := 5) (by omega)
    have v5 : vp_in (nI (d + 1 + 4) - 5) 50 := by rw [e5]; exact in_nI (by omega) (by decide)
    have v0 : vp_in (nI (d + 1 + 4)) 50 := in_nI (by omega) (by decide)
    have c5 : (nI (d + 1 + 4) - 5).toNatClampNeg = d + 1 + 4 - 5 := by rw [e5]; exact nI_clamp (by omega)
    have c0 : (nI (d + 1 + 4)).toNatClampNeg = d + 1 + 4 := nI_clamp (by omega)
    have p316 : ∀ L1, X 300 (tkL num to x6 was fa (some (.int kk)) (some (.int (nI (d + 1 + 4) + -1)))) [] (g3 G Qa L1) (0, 0) → X 316 (tkL num to x6 was fa (some (.int kk)) (some (.int (nI (d + 1 + 4))))) [] (g3 G Qa L1) (0, 0) := by
      intro L1 hx
      refine go hX (fun pc => if pc = 300 then some 11 else none) 10 ?_
      exact hx
    refine go hX (fun pc => if pc = 316 then some 11 else none) 30 ?_
    refine And.intro (fun h => absurd h (nI_ge (a := 4) (by omega) (by omega))) (fun _ => ⟨v5, v0, ?_⟩)
    rw [c5, c0]
    refine p316 _ ?_
    have := ih (upd L1 (d + 1 + 4) (L1 (d + 1 + 4 - 5))) (by omega) (fun i h1 h2 => by
      by_cases hi : i = d + 1 + 4
      · subst hi
        exact upd_i.trans (a2 _ (by omega))
      · exact (upd_o hi).trans (a1 i (by omega) h2)) (fun i hi => (upd_o (by omega)).trans (a2 i (by omega)))
    have e1 : nI (d + 1 + 4) + -1 = nI (d + 4) := by
      rw [show d + 1 + 4 = d + 4 + 1 by omega, nI_succ, Int32.add_assoc, show (1 : Int32) + -1 = 0 by decide, Int32.add_zero]
    rw [e1]
    exact this
theorem toI_m1 {x : Int32} (h : 0 ≤ x.toInt) : ¬ x = -1 := by
  intro z
  rw [z, i32_m1] at h
  omega
set_option maxRecDepth 20000 in
theorem tk_243 (hX : Clo kL_tick Q X) {rd : Bool} (hrd : rd = true ↔ was + v 17 = 0) (h1 : ¬ v 1 = 0) : ∀ (rest ks : List Rq) (ua : Nat → Int32) (lga : List Rq) (G Qa La : Nat → Int32) (x10 : Option Value), ks.length + rest.length ≤ 12 → (∀ r ∈ rest, 0 ≤ r.1.toInt) → lga.length ≤ 10 → (∀ k, ¬ k = 8 → ¬ k = 9 → ua k = v k) → GU G ua (ks.length + rest.length) lga.length → QOk Qa (ks ++ rest) → QOk La lga →
    (∀ G1 Q1 L1 x9 x10, GU G1 ((rest.filter (hv v rd)).foldl (rdS v) (ua, lga)).1 (ks ++ rest.filter (fun r => !hv v rd r)).length ((rest.filter (hv v rd)).foldl (rdS v) (ua, lga)).2.length → QOk Q1 (ks ++ rest.filter (fun r => !hv v rd r)) → QOk L1 ((rest.filter (hv v rd)).foldl (rdS v) (ua, lga)).2 → X 457 (tkL (-1) to x6 was fa x9 x10) [] (g3 G1 Q1 L1) (0, 0)) → X 243 (tkL (-1) to x6 was fa (some (.int (nI ks.length))) x10) [] (g3 G Qa La) (0, 0) := by
  intro rest
  induction rest with
  | nil =>
    intro ks ua lga G Qa La x10 hn hb hlg hu hG hq hL hc
    simp only [List.filter_nil, List.append_nil, List.foldl_nil, List.length_nil, Nat.add_zero] at hc hG hq
    refine go hX (fun pc => if pc = 457 then some 11 else none) 30 ?_
    exact ⟨in_lit (by decide), And.intro (fun _ => hc _ _ _ _ _ hG hq hL) (fun h => absurd (show G 21 ≤ nI ks.length by rw [hG.2.1]; exact Int32.le_refl _) h)⟩
  | cons r rest ih =>
    intro ks ua lga G Qa La x10 hn hb hlg hu hG hq hL hc
    rw [List.length_cons] at hn hG
    have b1 := hb r List.mem_cons_self
    have hl : ¬ G 21 ≤ nI ks.length := by rw [hG.2.1]; exact nI_ge (by omega) (by omega)
    have c0 := q0c (i := ks.length) (by omega)
    have v0 := q0v (i := ks.length) (N := 60) (by omega) (by decide)
    have v1 := qv (i := ks.length) (j := 1) (N := 60) (by omega) (by decide) (by omega) (by decide)
    have v2 := qv (i := ks.length) (j := 2) (N := 60) (by omega) (by decide) (by omega) (by decide)
    have v3 := qv (i := ks.length) (j := 3) (N := 60) (by omega) (by decide) (by omega) (by decide)
    have q0 : Qa ((5 : Int32) * nI ks.length).toNatClampNeg = r.1 := by rw [c0]; exact q_at hq (j := 0) (by decide)
    have q1 : Qa ((5 : Int32) * nI ks.length + nI 1).toNatClampNeg = r.2.1 := by rw [qc (by omega) (by decide)]; exact q_at hq (by decide)
    have q2 : Qa ((5 : Int32) * nI ks.length + nI 2).toNatClampNeg = r.2.2.1 := by rw [qc (by omega) (by decide)]; exact q_at hq (by decide)
    have q3 : Qa ((5 : Int32) * nI ks.length + nI 3).toNatClampNeg = r.2.2.2.1 := by rw [qc (by omega) (by decide)]; exact q_at hq (by decide)
    have g1 : G 1 = v 1 := (hG.1 1 (by decide)).trans (hu 1 (by decide) (by decide))
    have g6 : G 6 = v 6 := (hG.1 6 (by decide)).trans (hu 6 (by decide) (by decide))
    have g16 : G 16 = v 16 := (hG.1 16 (by decide)).trans (hu 16 (by decide) (by decide))
    have g17 : G 17 = v 17 := (hG.1 17 (by decide)).trans (hu 17 (by decide) (by decide))
    have g1n : ¬ G 1 = 0 := by rw [g1]; exact h1
    have p451g : ∀ (jv : Int32) (G Qa La : Nat → Int32) (x10 : Option Value), X 243 (tkL (-1) to x6 was fa (some (.int (jv + 1))) x10) [] (g3 G Qa La) (0, 0) → X 451 (tkL (-1) to x6 was fa (some (.int jv)) x10) [] (g3 G Qa La) (0, 0) := by
      intro jv G Qa La x10 hx
      refine go hX (fun pc => if pc = 243 then some 11 else none) 10 ?_
      exact hx
    have p451 : hv v rd r = false → X 451 (tkL (-1) to x6 was fa (some (.int (nI ks.length))) x10) [] (g3 G Qa La) (0, 0) := by
      intro hh
      refine p451g _ _ _ _ _ ?_
      have ef : (r :: rest).filter (hv v rd) = rest.filter (hv v rd) := by rw [List.filter_cons, hh]; rfl
      have eg : ks ++ (r :: rest).filter (fun r => !hv v rd r) = (ks ++ [r]) ++ rest.filter (fun r => !hv v rd r) := by rw [List.filter_cons, hh, List.append_assoc]; rfl
      rw [ef, eg] at hc
      have el : (ks ++ [r]).length = ks.length + 1 := by rw [List.length_append, List.length_singleton]
      have := ih (ks ++ [r]) ua lga G Qa La x10 (by omega) (fun x hx => hb x (List.mem_cons_of_mem _ hx)) hlg hu (by rw [el, show ks.length + 1 + rest.length = ks.length + (rest.length + 1) by omega]; exact hG) (by rw [List.append_assoc]; exact hq) hL hc
      rw [el, ← nI_1] at this
      exact this
    refine go hX (fun pc => if pc = 451 then some 11 else if pc = 296 then some 11 else none) 60 ?_
    refine ⟨in_lit (by decide), And.intro (fun h => absurd h hl) (fun _ => ⟨in_lit (by decide), And.intro (fun h => ?_) (fun h => ⟨v1, in_lit (by decide), And.intro (fun h2 => ?_) (fun h2 => ⟨v2, in_lit (by decide), in_lit (by decide), g1n, And.intro (fun h3 => ?_) (fun h3 => ?_)⟩)⟩)⟩)⟩
    · have h' : ¬ was + G 17 = 0 := h
      rw [g17] at h'
      have : rd = false := by
        cases hr : rd with
        | false => rfl
        | true => exact absurd (hrd.mp hr) h'
      exact p451 (by unfold hv; rw [this]; rfl)
    · have h' : ¬ Qa ((5 : Int32) * nI ks.length + nI 1).toNatClampNeg = G 16 := h2
      rw [q1, g16] at h'
      refine p451 ?_
      unfold hv
      rw [hitS_f (u := v) (fun z => h' z.1), Bool.and_false]
    · have h' : ¬ Qa ((5 : Int32) * nI ks.length + nI 2).toNatClampNeg = G 6 % G 1 := h3
      rw [q2, g6, g1] at h'
      refine p451 ?_
      unfold hv
      rw [hitS_f (u := v) (fun z => h' z.2), Bool.and_false]
    · have k0 : was + v 17 = 0 := by rw [← g17]; exact h
      have k1 : r.2.1 = v 16 := by rw [← q1, ← g16]; exact h2
      have k2 : r.2.2.1 = v 6 % v 1 := by rw [← q2, ← g6, ← g1]; exact h3
      have hh : hv v rd r = true := by
        unfold hv
        rw [hrd.mpr k0, hitS_t k1 k2]
        rfl
      have ef : (r :: rest).filter (hv v rd) = r :: rest.filter (hv v rd) := by rw [List.filter_cons, hh]; rfl
      have eg : (r :: rest).filter (fun r => !hv v rd r) = rest.filter (fun r => !hv v rd r) := by rw [List.filter_cons, hh]; rfl
      rw [ef, eg, List.foldl_cons] at hc
      obtain ⟨la, hla⟩ : ∃ la, lateS v r = la := ⟨_, rfl⟩
      obtain ⟨e, he⟩ : ∃ e : Rq, e = (r.1, v 16, v 6 % v 1, v 6, la) := ⟨_, rfl⟩
      have hrs : rdS v (ua, lga) r = (upd (upd ua 8 (ua 8 + 1)) 9 (ua 9 + la), (e :: lga).take 10) := by rw [he, ← hla]; rfl
      rw [hrs] at hc
      have len1 : ((e :: lga).take 10).length = min (lga.length + 1) 10 := by rw [List.length_take, List.length_cons]; omega
      -- the request goes
      have p441 : ∀ (G L3 : Nat → Int32) (x10 : Option Value), GU G (upd (upd ua 8 (ua 8 + 1)) 9 (ua 9 + la)) (ks.length + (rest.length + 1)) ((e :: lga).take 10).length → QOk L3 ((e :: lga).take 10) → X 441 (tkL (-1) to x6 was fa (some (.int (nI ks.length))) x10) [] (g3 G Qa L3) (0, 0) := by
        intro G L3 x10 hG hL3
        refine go hX (fun pc => if pc = 451 then some 11 else none) 30 ?_
        refine l_gone (k := ks.length) (n := ks.length + (rest.length + 1)) hG.2.1 rfl (by omega) hn (fun Q1 a1 a2 => ?_)
        refine p451g _ _ _ _ _ ?_
        have := ih ks (upd (upd ua 8 (ua 8 + 1)) 9 (ua 9 + la)) ((e :: lga).take 10) (upd G 21 (G 21 - 1)) Q1 L3 x10 (by omega) (fun x hx => hb x (List.mem_cons_of_mem _ hx)) (by omega) (fun k k8 k9 => (upd_o k9).trans ((upd_o k8).trans (hu k k8 k9))) (GU.dec (c := ks.length + rest.length) hG) (q_gone hq a1 (fun i h1 h2 => a2 i h1 (by omega))) hL3 hc
        rw [← bk1 ks.length] at this
        exact this
      have p439 : ∀ (G L3 : Nat → Int32) (inc : Int32) (x10 : Option Value), inc = (if 10 ≤ nI lga.length then 0 else 1) → GU G (upd (upd ua 8 (ua 8 + 1)) 9 (ua 9 + la)) (ks.length + (rest.length + 1)) lga.length → QOk L3 ((e :: lga).take 10) → X 439 (tkL (-1) to x6 was fa (some (.int (nI ks.length))) x10) [.int inc, .int (G 22), .int 22, .ref 0] (g3 G Qa L3) (0, 0) := by
        intro G L3 inc x10 hinc hG hL3
        refine go hX (fun pc => if pc = 441 then some 11 else none) 10 ?_
        refine ⟨in_lit (by decide), p441 _ _ _ (hG.s22 ?_) hL3⟩
        show G 22 + inc = _
        rw [len1, hG.2.2, hinc]
        by_cases h10 : lga.length = 10
        · rw [h10, if_pos (by decide), Int32.add_zero]
          rfl
        · rw [if_neg (show ¬ (10 : Int32) ≤ nI lga.length from nI_ge (b := 10) (by omega) (by decide)), show min (lga.length + 1) 10 = lga.length + 1 by omega]
          exact nI_1 _
      have p420 : ∀ (G L3 : Nat → Int32) (x10 : Option Value), GU G (upd (upd ua 8 (ua 8 + 1)) 9 (ua 9 + la)) (ks.length + (rest.length + 1)) lga.length → QOk L3 ((e :: lga).take 10) → X 420 (tkL (-1) to x6 was fa (some (.int (nI ks.length))) x10) [] (g3 G Qa L3) (0, 0) := by
        intro G L3 x10 hG hL3
        refine go hX (fun pc => if pc = 439 then some 11 else none) 30 ?_
        refine ⟨in_lit (by decide), in_lit (by decide), And.intro (fun h => ?_) (fun h => ?_)⟩
        · refine p439 G L3 0 x10 ?_ hG hL3
          rw [if_pos (by rw [← hG.2.2]; exact h)]
        · refine p439 G L3 1 x10 ?_ hG hL3
          rw [if_neg (by rw [← hG.2.2]; exact h)]
      have p412 : ∀ (G L3 : Nat → Int32) (x10 : Option Value), GU G (upd ua 9 (ua 9 + la)) (ks.length + (rest.length + 1)) lga.length → QOk L3 ((e :: lga).take 10) → X 412 (tkL (-1) to x6 was fa (some (.int (nI ks.length))) x10) [] (g3 G Qa L3) (0, 0) := by
        intro G L3 x10 hG hL3
        refine go hX (fun pc => if pc = 420 then some 11 else none) 30 ?_
        refine ⟨in_lit (by decide), in_lit (by decide), p420 _ _ _ ((hG.st (i := 8) (y := ua 8 + 1) (by decide) ?_).cg (fun k hk => ?_)) hL3⟩
        · show G 8 + 1 = ua 8 + 1
          rw [hG.1 8 (by decide), upd_o (by decide)]
        · by_cases k8 : k = 8
          · subst k8
            rw [upd_i, upd_o (by decide), upd_i]
          · by_cases k9 : k = 9
            · subst k9
              rw [upd_o (by decide), upd_i, upd_i]
            · rw [upd_o k8, upd_o k9, upd_o k9, upd_o k8]
      have p402 : ∀ (L3 : Nat → Int32) (x10 : Option Value), L3 4 = la → QOk L3 ((e :: lga).take 10) → X 402 (tkL (-1) to x6 was fa (some (.int (nI ks.length))) x10) [] (g3 G Qa L3) (0, 0) := by
        intro L3 x10 h4 hL3
        refine go hX (fun pc => if pc = 412 then some 11 else none) 30 ?_
        refine ⟨in_lit (by decide), in_lit (by decide), in_lit (by decide), p412 _ _ _ (hG.st (i := 9) (y := ua 9 + la) (by decide) ?_) hL3⟩
        show G 9 + L3 4 = ua 9 + la
        rw [hG.1 9 (by decide), h4]
      have p383 : ∀ (L3 : Nat → Int32) (x10 : Option Value), (∀ j, j < 5 → L3 j = rf e j) → (∀ i, 5 ≤ i → i < 50 → L3 i = La (i - 5)) → X 383 (tkL (-1) to x6 was fa (some (.int (nI ks.length))) x10) [] (g3 G Qa L3) (0, 0) := by
        intro L3 x10 a0 a1
        have hL3 := log_push a0 a1 hL
        have e0 : L3 0 = r.1 := by rw [a0 0 (by decide), he]; rfl
        have e4 : L3 4 = la := by rw [a0 4 (by decide), he]; rfl
        refine go hX (fun pc => if pc = 402 then some 11 else none) 30 ?_
        refine And.intro (fun h => absurd rfl h) (fun _ => ⟨in_lit (by decide), And.intro (fun h => ?_) (fun h => ?_)⟩)
        · exact p402 L3 x10 e4 hL3
        · exact absurd (show L3 0 = -1 from h) (by rw [e0]; exact toI_m1 b1)
      have p360 : ∀ (L3 : Nat → Int32) (x10 : Option Value), (∀ j, j < 4 → L3 j = rf e j) → (∀ i, 5 ≤ i → i < 50 → L3 i = La (i - 5)) → X 360 (tkL (-1) to x6 was fa (some (.int (nI ks.length))) x10) [] (g3 G Qa L3) (0, 0) := by
        intro L3 x10 a0 a1
        have fin : ∀ la', la' = la → X 383 (tkL (-1) to x6 was fa (some (.int (nI ks.length))) x10) [] (g3 G Qa (upd L3 4 la')) (0, 0) := by
          intro la' hl'
          refine p383 _ _ (fun j hj => ?_) (fun i h1 h2 => (upd_o (by omega)).trans (a1 i h1 h2))
          by_cases h4 : j = 4
          · subst h4
            rw [upd_i, hl', he]
            rfl
          · rw [upd_o h4]
            exact a0 j (by omega)
        refine go hX (fun pc => if pc = 383 then some 11 else none) 30 ?_
        refine ⟨v3, in_lit (by decide), And.intro (fun h => ⟨in_lit (by decide), ?_⟩) (fun h => ⟨in_lit (by decide), ?_⟩)⟩
        · have h' : G 6 ≤ Qa ((5 : Int32) * nI ks.length + nI 3).toNatClampNeg := h
          rw [q3, g6] at h'
          exact fin 0 (by rw [← hla]; exact (z01_f (Int32.not_lt.mpr h')).symm)
        · have h' : ¬ G 6 ≤ Qa ((5 : Int32) * nI ks.length + nI 3).toNatClampNeg := h
          rw [q3, g6] at h'
          exact fin 1 (by rw [← hla]; exact (z01_t (Int32.not_le.mp h')).symm)
      have p322 : ∀ (L1 : Nat → Int32) (x10 : Option Value), (∀ i, 5 ≤ i → i < 50 → L1 i = La (i - 5)) → X 322 (tkL (-1) to x6 was fa (some (.int (nI ks.length))) x10) [] (g3 G Qa L1) (0, 0) := by
        intro L1 x10 a1
        refine go hX (fun pc => if pc = 360 then some 11 else none) 60 ?_
        refine ⟨v0, in_lit (by decide), v1, in_lit (by decide), v2, in_lit (by decide), in_lit (by decide), in_lit (by decide), ?_⟩
        refine p360 _ _ (fun j hj => ?_) (fun i h1 h2 => ?_)
        · rw [he]
          rcases (show j = 0 ∨ j = 1 ∨ j = 2 ∨ j = 3 by omega) with rfl | rfl | rfl | rfl
          · exact q0
          · exact q1.trans k1
          · exact q2.trans k2
          · exact g6
        · show upd (upd (upd (upd L1 0 _) 1 _) 2 _) 3 _ i = _
          rw [upd_o (by omega), upd_o (by omega), upd_o (by omega), upd_o (by omega)]
          exact a1 i h1 h2
      refine go hX (fun pc => if pc = 300 then some 11 else none) 10 ?_
      exact tk_300 hX p322 45 La (by omega) (fun i h1 h2 => by omega) (fun _ _ => rfl)
