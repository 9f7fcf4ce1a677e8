/-! ===== the reference: reads, givesUp, ticks ===== -/
variable {g P H X G f : Nat → Int32} {h : Int64} {Q : AQ}
def raF (w t : Int32) : List Rq → Int32 → Int32
  | [], x => x
  | r :: hs, x => raF w t hs (if r.1 = w then t else x)
/-- a row taken away -/
theorem RS.take {g g1 : Nat → Int32} {ua : Nat → Int32} {ks rest lga : List Rq} {r : Rq} (hR : RS g (ua, ks ++ r :: rest, lga)) (hn : (ks ++ r :: rest).length ≤ 12)
    (h21 : g1 21 = nI ((ks ++ r :: rest).length - 1)) (h1 : ∀ k, 23 + 5 * ks.length ≤ k → k < 23 + 5 * ((ks ++ r :: rest).length - 1) → g1 k = g (k + 5)) (h2 : ∀ k, ¬ k = 21 → (k < 23 + 5 * ks.length ∨ 23 + 5 * ((ks ++ r :: rest).length - 1) ≤ k) → g1 k = g k) (hl : lga.length ≤ 10) : RS g1 (ua, ks ++ rest, lga) := by
  obtain ⟨a, b, c, d, e⟩ := hR
  dsimp only at a b c d e
  have hlen : (ks ++ r :: rest).length = ks.length + rest.length + 1 := by rw [List.length_append, List.length_cons]; omega
  have hlen2 : (ks ++ rest).length = ks.length + rest.length := List.length_append
  refine ⟨fun k hk => (h2 k (by omega) (by omega)).trans (a k hk), by rw [h21]; show _ = nI (ks ++ rest).length; rw [hlen, hlen2]; rfl, (h2 22 (by decide) (by omega)).trans c, fun k x hx j hj => ?_, fun b' x hx j hj => ?_⟩
  · have hkl : k < ks.length + rest.length := by rw [← hlen2]; exact (List.getElem?_eq_some_iff.mp hx).1
    have hx' : (ks ++ rest)[k]? = some x := hx
    by_cases hk : k < ks.length
    · rw [h2 _ (by omega) (by omega)]
      refine d k x ?_ j hj
      rw [List.getElem?_append_left hk] at hx' ⊢
      exact hx'
    · rw [h1 _ (by omega) (by omega), show 23 + 5 * k + j + 5 = 23 + 5 * (k + 1) + j by omega]
      refine d (k + 1) x ?_ j hj
      rw [List.getElem?_append_right (by omega)] at hx' ⊢
      rw [show k + 1 - ks.length = (k - ks.length) + 1 by omega]
      exact hx'
  · have hb : b' < lga.length := (List.getElem?_eq_some_iff.mp hx).1
    rw [h2 _ (by omega) (by omega)]
    exact e b' x hx j hj
/-- a row written into the log -/
theorem RS.log {g g1 : Nat → Int32} {u ua : Nat → Int32} {ks rest lga : List Rq} {r : Rq} (hR : RS g (ua, ks ++ r :: rest, lga)) (hn : (ks ++ r :: rest).length ≤ 12) (hl : lga.length ≤ 10) (hu : ∀ k, ¬ k = 8 → ¬ k = 9 → ua k = u k) (hh : hitS u r = true)
    (q1 : ∀ j, j < 5 → g1 (83 + j) = rf (nuN g ks.length, trN g ks.length, g (23 + 5 * ks.length + 2), g 6, z01 (dlN g ks.length < g 6)) j) (q2 : ∀ k, 88 ≤ k → k ≤ 132 → g1 k = g (k - 5)) (q3 : g1 22 = g 22 + (if g 22 < 10 then 1 else 0)) (q4 : g1 8 = g 8 + 1) (q5 : g1 9 = g 9 + z01 (dlN g ks.length < g 6)) (q6 : ∀ k, k < 83 → ¬ k = 22 → ¬ k = 8 → ¬ k = 9 → g1 k = g k) :
    RS g1 ((rdS u (ua, lga) r).1, ks ++ r :: rest, (rdS u (ua, lga) r).2) := by
  obtain ⟨a, b, c, d, e⟩ := hR
  dsimp only at a b c d e
  have hlen : (ks ++ r :: rest).length = ks.length + rest.length + 1 := by rw [List.length_append, List.length_cons]; omega
  have hr : (ks ++ r :: rest)[ks.length]? = some r := by rw [List.getElem?_append_right (Nat.le_refl _), Nat.sub_self]; rfl
  have r0 : nuN g ks.length = r.1 := d _ r hr 0 (by decide)
  have r1 : trN g ks.length = r.2.1 := d _ r hr 1 (by decide)
  have r2 : g (23 + 5 * ks.length + 2) = r.2.2.1 := d _ r hr 2 (by decide)
  have r3 : dlN g ks.length = r.2.2.2.1 := d _ r hr 3 (by decide)
  have t6 : g 6 = u 6 := (a 6 (by decide)).trans (hu 6 (by decide) (by decide))
  have hh2 := of_decide_eq_true hh
  have el : z01 (dlN g ks.length < g 6) = lateS u r := by rw [r3, t6]; rfl
  refine ⟨fun k hk => ?_, (q6 21 (by decide) (by decide) (by decide) (by decide)).trans b, ?_, fun k x hx j hj => ?_, fun b' x hx j hj => ?_⟩
  · show g1 k = upd (upd ua 8 (ua 8 + 1)) 9 (ua 9 + lateS u r) k
    unfold upd
    by_cases h9 : k = 9
    · rw [if_pos h9, h9, q5, el, a 9 (by decide)]
    · rw [if_neg h9]
      by_cases h8 : k = 8
      · rw [if_pos h8, h8, q4, a 8 (by decide)]
      · rw [if_neg h8]
        exact (q6 k (by omega) (by omega) h8 h9).trans (a k hk)
  · show g1 22 = nI (List.take 10 (_ :: lga)).length
    rw [List.length_take, List.length_cons, q3, c]
    by_cases h10 : lga.length < 10
    · rw [if_pos (show nI lga.length < 10 from nI_lt (b := 10) h10 (by decide)), nI_1]
      congr 1
      omega
    · rw [if_neg (show ¬ nI lga.length < 10 from nI_nlt (b := 10) (by omega) (by omega)), Int32.add_zero]
      congr 1
      omega
  · have hk : k < ks.length + rest.length + 1 := by rw [← hlen]; exact (List.getElem?_eq_some_iff.mp hx).1
    rw [q6 _ (by omega) (by omega) (by omega) (by omega)]
    exact d k x hx j hj
  · have hx' : (List.take 10 (((r.1, u 16, u 6 % u 1, u 6, lateS u r) : Rq) :: lga))[b']? = some x := hx
    rw [List.getElem?_take] at hx'
    split at hx'
    · cases b' with
      | zero =>
        cases hx'
        rw [show 83 + 5 * 0 + j = 83 + j by omega, q1 j hj, r0, r1, r2, t6, ← t6, el, t6, hh2.1, hh2.2]
      | succ b' =>
        have hx2 : lga[b']? = some x := hx'
        have hb : b' < lga.length := (List.getElem?_eq_some_iff.mp hx2).1
        rw [q2 _ (by omega) (by omega), show 83 + 5 * (b' + 1) + j - 5 = 83 + 5 * b' + j by omega]
        exact e b' x hx2 j hj
    · cases hx'
set_option maxRecDepth 20000 in
theorem m_reads {u : Nat → Int32} {rs lg : List Rq} (hR : RS g (u, rs, lg)) (hm : rs.length ≤ 12) (hl : lg.length ≤ 10) (h1 : ¬ u 1 = 0) (hQ : ∀ g1, RS g1 (readS (u, rs, lg)) → Q (.inl none) (mdW g1 P H X G (upd f 5 (raF (f 4) (u 6) (rs.filter (hitS u)) (f 5))) h)) : Tr tX10_reads 0 0 [.ref 0] (mdW g P H X G f h) Q := by
  refine Tr.of sX10_reads (by decide +kernel) (Nat.le_of_ble_eq_true rfl) fun Y hX => ?_
  have key : ∀ (rest ks : List Rq) (iv : Int32) (ua : Nat → Int32) (lga : List Rq) (g : Nat → Int32) (x5 : Int32), iv = nI ks.length → (ks ++ rest).length ≤ 12 → (∀ k, ¬ k = 8 → ¬ k = 9 → ua k = u k) → lga.length ≤ 10 → RS g (ua, ks ++ rest, lga) →
      (∀ g1, RS g1 (((rest.filter (hitS u)).foldl (rdS u) (ua, lga)).1, ks ++ rest.filter (fun r => !hitS u r), ((rest.filter (hitS u)).foldl (rdS u) (ua, lga)).2) → Q (.inl none) (mdW g1 P H X G (upd f 5 (raF (f 4) (u 6) (rest.filter (hitS u)) x5)) h)) →
      Y 2 [some (.ref 0), some (.int iv)] [] (mdW g P H X G (upd f 5 x5) h) (0, 0) := by
    intro rest
    induction rest with
    | nil =>
      intro ks iv ua lga g x5 hv hm hu hl hR hc
      simp only [List.filter_nil, List.append_nil, List.foldl_nil] at hc hR hm
      refine go hX (fun _ => none) 40 ?_
      refine ⟨in_lit (by decide), And.intro (fun _ => hc g hR) (fun h => ?_)⟩
      exact absurd (show g 21 ≤ iv by rw [hR.2.1, hv]; exact Int32.le_refl _) h
    | cons r rest ih =>
      intro ks iv ua lga g x5 hv hm hu hl hR hc
      have hlen : (ks ++ r :: rest).length = ks.length + rest.length + 1 := by rw [List.length_append, List.length_cons]; omega
      have hlt : ¬ g 21 ≤ iv := by rw [hR.2.1, hv]; exact nI_ge (show ks.length < (ks ++ r :: rest).length by omega) (by show (ks ++ r :: rest).length < _; omega)
      have hr : (ks ++ r :: rest)[ks.length]? = some r := by rw [List.getElem?_append_right (Nat.le_refl _), Nat.sub_self]; rfl
      have r1 : trN g ks.length = r.2.1 := hR.2.2.2.1 _ r hr 1 (by decide)
      have r2 : g (23 + 5 * ks.length + 2) = r.2.2.1 := hR.2.2.2.1 _ r hr 2 (by decide)
      have r0 : nuN g ks.length = r.1 := hR.2.2.2.1 _ r hr 0 (by decide)
      have g16 : g 16 = u 16 := (hR.1 16 (by decide)).trans (hu 16 (by decide) (by decide))
      have g6 : g 6 = u 6 := (hR.1 6 (by decide)).trans (hu 6 (by decide) (by decide))
      have g1' : g 1 = u 1 := (hR.1 1 (by decide)).trans (hu 1 (by decide) (by decide))
      have no : hitS u r = false → Y 65 [some (.ref 0), some (.int iv)] [] (mdW g P H X G (upd f 5 x5) h) (0, 0) := by
        intro hh
        refine go hX (fun pc => if pc = 2 then some 2 else none) 40 ?_
        have ea : ks ++ r :: rest = (ks ++ [r]) ++ rest := by rw [List.append_assoc]; rfl
        have ef : (r :: rest).filter (hitS u) = rest.filter (hitS u) := by rw [List.filter_cons, hh]; rfl
        have eg : ks ++ (r :: rest).filter (fun r => !hitS u r) = (ks ++ [r]) ++ rest.filter (fun r => !hitS u r) := by rw [List.filter_cons, hh, List.append_assoc]; rfl
        rw [ef, eg] at hc
        rw [ea] at hm hR
        exact ih (ks ++ [r]) (iv + 1) ua lga g x5 (by rw [hv, List.length_append, List.length_singleton]; exact nI_1 _) hm hu hl hR hc
      refine go hX (fun pc => if pc = 2 then some 2 else if pc = 65 then some 2 else none) 60 ?_
      refine ⟨in_lit (by decide), And.intro (fun h => absurd h hlt) (fun _ => ?_)⟩
      refine m_of (v := r.2.1) hv (show (1 : Int32) = nI 1 from rfl) (by omega) r1 ?_
      refine ⟨in_lit (by decide), And.intro (fun h2 => no (hitS_f fun z => h2 (z.1.trans g16.symm))) (fun h2 => ?_)⟩
      refine m_of (v := r.2.2.1) hv (show (2 : Int32) = nI 2 from rfl) (by omega) r2 ?_
      refine ⟨in_lit (by decide), in_lit (by decide), fun z => h1 (g1'.symm.trans z), And.intro (fun h3 => no (hitS_f fun z => h3 (z.2.trans (by rw [← g6, ← g1'] ; rfl)))) (fun h3 => ?_)⟩
      have hh : hitS u r = true := hitS_t (h2.trans g16) (h3.trans (by rw [← g6, ← g1']; rfl))
      refine m_logs (p := ks.length) hv (by omega) (fun ga q1 q2 q3 q4 q5 q6 => ?_)
      have hR1 := RS.log hR hm hl hu hh q1 q2 q3 q4 q5 q6
      have hl2 : (rdS u (ua, lga) r).2.length ≤ 10 := by show (List.take 10 _).length ≤ 10; rw [List.length_take]; omega
      refine m_takes (n := (ks ++ r :: rest).length) hv (by omega) hR1.2.1 hm (fun gb p1 p2 p3 => ?_)
      have hR2 := RS.take hR1 hm p1 p2 p3 hl2
      have ef : (r :: rest).filter (hitS u) = r :: rest.filter (hitS u) := by rw [List.filter_cons, hh]; rfl
      have eg : (r :: rest).filter (fun r => !hitS u r) = rest.filter (fun r => !hitS u r) := by rw [List.filter_cons, hh]; rfl
      rw [ef, eg, List.foldl_cons] at hc
      refine ih ks iv (rdS u (ua, lga) r).1 (rdS u (ua, lga) r).2 gb (if nuN g ks.length = f 4 then g 6 else x5) hv (by rw [List.length_append]; omega) (fun k h8 h9 => ?_) hl2 hR2 (fun gc hgc => ?_)
      · show upd (upd ua 8 _) 9 _ k = _
        unfold upd
        rw [if_neg h9, if_neg h8]
        exact hu k h8 h9
      · have := hc gc hgc
        rw [r0, g6]
        exact this
  refine go hX (fun pc => if pc = 2 then some 2 else none) 60 ?_
  exact key rs [] 0 u lg g (f 5) rfl hm (fun _ _ _ => rfl) hl hR hQ
set_option maxRecDepth 20000 in
theorem m_givesUp {s : Sg} (hR : RS g s) (hm : s.2.1.length ≤ 12) (hl : s.2.2.length ≤ 10) (h5 : 0 ≤ (s.1 5).toInt) (hQ : ∀ g1, RS g1 (if s.1 5 = 0 then s else giveS s) → Q (.inl none) (mdW g1 P H X G f h)) : Tr tX10_givesUp 0 0 [.ref 0] (mdW g P H X G f h) Q := by
  obtain ⟨u, rs, lg⟩ := s
  dsimp only at hm hl h5 hQ
  refine Tr.of sX10_givesUp (by decide +kernel) (Nat.le_of_ble_eq_true rfl) fun Y hX => ?_
  by_cases h50 : u 5 = 0
  · rw [if_pos h50] at hQ
    refine go hX (fun _ => none) 60 ?_
    have g5 : g 5 = 0 := (hR.1 5 (by decide)).trans h50
    exact ⟨in_lit (by decide), And.intro (fun _ => hQ g hR) (fun _ => ⟨in_lit (by decide), And.intro (fun _ => hQ g hR) (fun hz => absurd (show g 5 ≤ 0 by rw [g5]; exact Int32.le_refl _) hz)⟩)⟩
  · rw [if_neg h50] at hQ
    have key : ∀ (rest ks : List Rq) (iv : Int32) (x : Int32) (g : Nat → Int32), iv = nI ks.length → (ks ++ rest).length ≤ 12 → RS g (upd u 10 x, ks ++ rest, lg) →
        (∀ g1, RS g1 (upd u 10 (x + nI (rest.countP (goneS u))), ks ++ rest.filter (fun r => !goneS u r), lg) → Q (.inl none) (mdW g1 P H X G f h)) → Y 2 [some (.ref 0), some (.int iv)] [] (mdW g P H X G f h) (0, 0) := by
      intro rest
      induction rest with
      | nil =>
        intro ks iv x g hv hm hR hc
        simp only [List.filter_nil, List.append_nil, List.countP_nil, nI_0, Int32.add_zero] at hc hR hm
        refine go hX (fun _ => none) 40 ?_
        refine ⟨in_lit (by decide), And.intro (fun _ => hc g hR) (fun h => ?_)⟩
        exact absurd (show g 21 ≤ iv by rw [hR.2.1, hv]; exact Int32.le_refl _) h
      | cons r rest ih =>
        intro ks iv x g hv hm hR hc
        have hlen : (ks ++ r :: rest).length = ks.length + rest.length + 1 := by rw [List.length_append, List.length_cons]; omega
        have hlt : ¬ g 21 ≤ iv := by rw [hR.2.1, hv]; exact nI_ge (show ks.length < (ks ++ r :: rest).length by omega) (by show (ks ++ r :: rest).length < _; omega)
        have hr : (ks ++ r :: rest)[ks.length]? = some r := by rw [List.getElem?_append_right (Nat.le_refl _), Nat.sub_self]; rfl
        have r3 : g (23 + 5 * ks.length + 3) = r.2.2.2.1 := hR.2.2.2.1 _ r hr 3 (by decide)
        have g5 : g 5 = u 5 := hR.1 5 (by decide)
        have g6 : g 6 = u 6 := hR.1 6 (by decide)
        have n5 : ¬ g 5 ≤ 0 := by
          rw [g5]
          intro z
          have := Int32.le_iff_toInt_le.mp z
          have z0 : (0 : Int32).toInt = 0 := rfl
          exact h50 (Int32.toInt_inj.mp (by omega))
        refine go hX (fun pc => if pc = 2 then some 2 else none) 60 ?_
        refine ⟨in_lit (by decide), And.intro (fun h => absurd h hlt) (fun _ => ⟨in_lit (by decide), And.intro (fun h => absurd h n5) (fun _ => ?_)⟩)⟩
        refine m_of (v := r.2.2.2.1) hv (show (3 : Int32) = nI 3 from rfl) (by omega) r3 ?_
        refine ⟨in_lit (by decide), in_lit (by decide), And.intro (fun h2 => ?_) (fun h2 => ?_)⟩
        · have hh : goneS u r = false := decide_eq_false (fun z => Int32.not_le.mpr z (by rw [← g5, ← g6]; exact h2))
          have ea : ks ++ r :: rest = (ks ++ [r]) ++ rest := by rw [List.append_assoc]; rfl
          have ef : (r :: rest).countP (goneS u) = rest.countP (goneS u) := List.countP_cons_of_neg (by rw [hh]; decide)
          have eg : ks ++ (r :: rest).filter (fun r => !goneS u r) = (ks ++ [r]) ++ rest.filter (fun r => !goneS u r) := by rw [List.filter_cons, hh, List.append_assoc]; rfl
          rw [ef, eg] at hc
          rw [ea] at hm hR
          exact ih (ks ++ [r]) (iv + 1) x g (by rw [hv, List.length_append, List.length_singleton]; exact nI_1 _) hm hR hc
        · have hh : goneS u r = true := decide_eq_true (Int32.not_le.mp (fun z => h2 (by rw [← g5, ← g6] at z; exact z)))
          refine m_takes (n := (ks ++ r :: rest).length) hv (by omega) hR.2.1 hm (fun gb p1 p2 p3 => ?_)
          have hR2 := RS.take hR hm p1 p2 p3 hl
          refine ⟨in_lit (by decide), in_lit (by decide), ?_⟩
          have ef : (r :: rest).countP (goneS u) = rest.countP (goneS u) + 1 := List.countP_cons_of_pos hh
          have eg : (r :: rest).filter (fun r => !goneS u r) = rest.filter (fun r => !goneS u r) := by rw [List.filter_cons, hh]; rfl
          have ea : x + 1 + nI (rest.countP (goneS u)) = x + nI (rest.countP (goneS u) + 1) := by rw [nI_succ, Int32.add_assoc, Int32.add_comm 1]
          rw [ef, eg, ← ea] at hc
          obtain ⟨c1, c2, c3, c4, c5⟩ := hR2
          dsimp only at c1 c2 c3 c4 c5
          have c10 : gb 10 = x := c1 10 (by decide)
          refine ih ks iv (x + 1) (upd gb 10 (gb 10 + 1)) hv (by rw [List.length_append]; omega) ⟨fun k hk => ?_, c2, c3, fun k y hy j hj => ?_, fun b y hy j hj => ?_⟩ hc
          · show upd gb 10 (gb 10 + 1) k = upd u 10 (x + 1) k
            unfold upd
            by_cases hk10 : k = 10
            · rw [if_pos hk10, if_pos hk10, c10]
            · rw [if_neg hk10, if_neg hk10]
              have := c1 k hk
              unfold upd at this
              rw [if_neg hk10] at this
              exact this
          · show upd gb 10 (gb 10 + 1) (23 + 5 * k + j) = _
            unfold upd
            rw [if_neg (by omega)]
            exact c4 k y hy j hj
          · show upd gb 10 (gb 10 + 1) (83 + 5 * b + j) = _
            unfold upd
            rw [if_neg (by omega)]
            exact c5 b y hy j hj
    refine go hX (fun pc => if pc = 2 then some 2 else none) 60 ?_
    refine key rs [] 0 (u 10) g rfl hm ?_ hQ
    have eu : upd u 10 (u 10) = u := by
      funext k
      unfold upd
      split
      · rename_i hk; rw [hk]
      · rfl
    rw [eu]
    exact hR
