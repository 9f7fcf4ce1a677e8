/-! ===== State: reading under the arm, giving up ===== -/
variable {u : Nat → Int32} {n : Int32} {S : Nat → Int32} {R : Nat → Nat → Int32} {L : Nat → Int32} {Q : AQ}
theorem hitS_t {u : Nat → Int32} {r : Rq} (h1 : r.2.1 = u 16) (h2 : r.2.2.1 = u 6 % u 1) : hitS u r = true := decide_eq_true ⟨h1, h2⟩
theorem hitS_f {u : Nat → Int32} {r : Rq} (h : ¬ (r.2.1 = u 16 ∧ r.2.2.1 = u 6 % u 1)) : hitS u r = false := decide_eq_false h
theorem rows_move {R1 : Nat → Nat → Int32} {ks rest : List Rq} {r : Rq} {i : Nat} (hi : ks.length ≤ i) (hk : ∀ (k : Nat) (x : Rq), ks[k]? = some x → ∀ j, j < 5 → R1 j k = rf x j) (hr : ∀ (k : Nat) (x : Rq), (r :: rest)[k]? = some x → ∀ j, j < 5 → R1 j (i + k) = rf x j) :
    (∀ (k : Nat) (x : Rq), (ks ++ [r])[k]? = some x → ∀ j, j < 5 → upd (R1 j) ks.length (R1 j i) k = rf x j) ∧ (∀ (k : Nat) (x : Rq), rest[k]? = some x → ∀ j, j < 5 → upd (R1 j) ks.length (R1 j i) (i + 1 + k) = rf x j) := by
  refine ⟨fun k x hx j hj => ?_, fun k x hx j hj => ?_⟩
  · unfold upd
    rw [List.getElem?_append] at hx
    split at hx
    · rw [if_neg (by omega)]
      exact hk k x hx j hj
    · have h0 : k - ks.length = 0 := by
        have := (List.getElem?_eq_some_iff.mp hx).1
        rw [List.length_singleton] at this
        omega
      rw [h0] at hx
      cases hx
      rw [if_pos (by omega)]
      exact hr 0 r rfl j hj
  · unfold upd
    rw [if_neg (by omega), show i + 1 + k = i + (k + 1) by omega]
    exact hr (k + 1) x hx j hj
theorem rows_skip {R1 : Nat → Nat → Int32} {rest : List Rq} {r : Rq} {i : Nat} (hr : ∀ (k : Nat) (x : Rq), (r :: rest)[k]? = some x → ∀ j, j < 5 → R1 j (i + k) = rf x j) : ∀ (k : Nat) (x : Rq), rest[k]? = some x → ∀ j, j < 5 → R1 j (i + 1 + k) = rf x j := by
  intro k x hx j hj
  rw [show i + 1 + k = i + (k + 1) by omega]
  exact hr (k + 1) x hx j hj
set_option maxRecDepth 20000 in
theorem c_read {rs lg : List Rq} {w : Nat} (hn : n = nI rs.length) (hm : rs.length ≤ 12) (h1 : ¬ u 1 = 0) (hw : u 8 = nI w) (hwb : w + 12 < 2 ^ 31) (hR : RqOk R rs) (hL : LgOk L w lg)
    (hQ : ∀ R1 L1, RqOk R1 (readS (u, rs, lg)).2.1 → LgOk L1 (w + (rs.filter (hitS u)).length) (readS (u, rs, lg)).2.2 → Q (.inl none) (stA 0 (readS (u, rs, lg)).1 (nI (readS (u, rs, lg)).2.1.length) S R1 L1)) : Tr tX6_readUnderArm 0 0 [.ref 0] (stA 0 u n S R L) Q := by
  refine Tr.of sX6_readUnderArm (by decide +kernel) (Nat.le_of_ble_eq_true rfl) fun X hX => ?_
  have key : ∀ (rest ks : List Rq) (i : Nat) (iv lv : Int32) (ua : Nat → Int32) (lga : List Rq) (R1 : Nat → Nat → Int32) (L1 : Nat → Int32) (wa : Nat) (x : Option Value), ks.length ≤ i → i + rest.length = rs.length → iv = nI i → lv = nI ks.length → (∀ k, ¬ k = 8 → ¬ k = 9 → ua k = u k) → ua 8 = nI wa → wa + rest.length ≤ w + rs.length → LgOk L1 wa lga →
      (∀ (k : Nat) (x : Rq), ks[k]? = some x → ∀ j, j < 5 → R1 j k = rf x j) → (∀ (k : Nat) (x : Rq), rest[k]? = some x → ∀ j, j < 5 → R1 j (i + k) = rf x j) →
      (∀ R2 L2, RqOk R2 (ks ++ rest.filter (fun r => !hitS u r)) → LgOk L2 (wa + (rest.filter (hitS u)).length) ((rest.filter (hitS u)).foldl (rdS u) (ua, lga)).2 → Q (.inl none) (stA 0 ((rest.filter (hitS u)).foldl (rdS u) (ua, lga)).1 (nI (ks ++ rest.filter (fun r => !hitS u r)).length) S R2 L2)) →
      X 9 [some (.ref 0), some (.int (u 6 % u 1)), some (.int lv), some (.int iv), x] [] (stA 0 ua n S R1 L1) (0, 0) := by
    intro rest
    induction rest with
    | nil =>
      intro ks i iv lv ua lga R1 L1 wa x hki hi hv hlv hu hwa hwl hL1 hk hr hc
      simp only [List.filter_nil, List.append_nil, List.foldl_nil, List.length_nil, Nat.add_zero] at hc hi
      refine go hX (fun _ => none) 60 ?_
      refine And.intro (fun _ => ?_) (fun h => absurd (by rw [hn, hv, hi]; exact Int32.le_refl _) h)
      rw [hlv]
      exact hc R1 L1 hk hL1
    | cons r rest ih =>
      intro ks i iv lv ua lga R1 L1 wa x hki hi hv hlv hu hwa hwl hL1 hk hr hc
      rw [List.length_cons] at hi hwl
      have hl : ¬ n ≤ iv := by rw [hn, hv]; exact nI_ge (by omega) (by omega)
      have v0 : vp_in iv 12 := by rw [hv]; exact in_nI (by omega) (by decide)
      have v1 : iv.toNatClampNeg = i := by rw [hv]; exact nI_clamp (by omega)
      have hrr : ∀ j, j < 5 → R1 j iv.toNatClampNeg = rf r j := fun j hj => by rw [v1]; exact hr 0 r rfl j hj
      have a16 := hu 16 (by decide) (by decide)
      have a6 := hu 6 (by decide) (by decide)
      have mv : hitS u r = false → ∀ x, X 130 [some (.ref 0), some (.int (u 6 % u 1)), some (.int lv), some (.int iv), x] [] (stA 0 ua n S R1 L1) (0, 0) := by
        intro hh x
        refine go hX (fun pc => if pc = 9 then some 5 else none) 60 ?_
        refine Tr.at [3, 4, 5, 6, 7, 8] (c_move (R := R1) (i := i) (j := ks.length) (by omega) (by omega) hv hlv ?_) rfl rfl rfl
        refine ih (ks ++ [r]) (i + 1) (iv + 1) (lv + 1) ua lga _ L1 wa x (by rw [List.length_append, List.length_singleton]; omega) (by omega) (by rw [hv]; exact nI_1 i) (by rw [hlv, List.length_append, List.length_singleton]; exact nI_1 _) hu hwa (by omega) hL1 (rows_move hki hk hr).1 (rows_move hki hk hr).2 ?_
        have ef : (r :: rest).filter (hitS u) = rest.filter (hitS u) := by rw [List.filter_cons, hh]; rfl
        have eg : ks ++ (r :: rest).filter (fun r => !hitS u r) = (ks ++ [r]) ++ rest.filter (fun r => !hitS u r) := by rw [List.filter_cons, hh, List.append_assoc]; rfl
        rw [ef, eg] at hc
        exact hc
      refine go hX (fun pc => if pc = 130 then some 5 else if pc = 75 then some 5 else none) 60 ?_
      refine And.intro (fun h => absurd h hl) (fun _ => ⟨v0, And.intro (fun h => ?_) (fun h => ⟨v0, And.intro (fun g => ?_) (fun g => ⟨v0, ?_⟩)⟩)⟩)
      · exact mv (hitS_f fun z => h ((hrr 1 (by decide)).trans (z.1.trans a16.symm))) x
      · exact mv (hitS_f fun z => g ((hrr 2 (by decide)).trans z.2)) x
      · have hh : hitS u r = true := hitS_t ((hrr 1 (by decide)).symm.trans (h.trans a16)) ((hrr 2 (by decide)).symm.trans g)
        have wr : ∀ la : Int32, lateS u r = la → X 75 [some (.ref 0), some (.int (u 6 % u 1)), some (.int lv), some (.int iv), some (.int la)] [] (stA 0 ua n S R1 L1) (0, 0) := by
          intro la hla
          have h01 : la = 0 ∨ la = 1 := by rw [← hla]; exact z01_c
          refine go hX (fun pc => if pc = 9 then some 5 else none) 60 ?_
          refine ⟨v0, ?_⟩
          have hp : ua 8 % 10 * 5 = nI (wa % 10 * 5) := by rw [hwa, show (10 : Int32) = nI 10 from rfl, show (5 : Int32) = nI 5 from rfl, mod_nI (by omega) (by decide), mul_nI]
          refine Tr.at [9, 10] (c_write (w := ua 8) (p := wa % 10 * 5) (L := L1) hp (by omega) h01 (fun L2 hA hB => ?_)) rfl rfl rfl
          have nx : ∀ y : Int32, lateS u r = y → X 9 [some (.ref 0), some (.int (u 6 % u 1)), some (.int lv), some (.int (iv + 1)), some (.int la)] [] (stA 0 (upd (upd ua 8 (ua 8 + 1)) 9 (ua 9 + y)) n S R1 L2) (0, 0) := by
            intro y hy
            have ef : (r :: rest).filter (hitS u) = r :: rest.filter (hitS u) := by rw [List.filter_cons, hh]; rfl
            have eg : (r :: rest).filter (fun r => !hitS u r) = rest.filter (fun r => !hitS u r) := by rw [List.filter_cons, hh]; rfl
            rw [ef, eg, List.foldl_cons, List.length_cons] at hc
            have hd : rdS u (ua, lga) r = (upd (upd ua 8 (ua 8 + 1)) 9 (ua 9 + y), (((r.1, u 16, u 6 % u 1, u 6, y) : Rq) :: lga).take 10) := by rw [← hy]; rfl
            rw [hd] at hc
            refine ih ks (i + 1) (iv + 1) lv _ ((((r.1, u 16, u 6 % u 1, u 6, y) : Rq) :: lga).take 10) R1 L2 (wa + 1) (some (.int la)) (by omega) (by omega) (by rw [hv]; exact nI_1 i) hlv ?_ ?_ (by omega) ?_ hk (rows_skip hr) ?_
            · intro k k8 k9
              unfold upd
              rw [if_neg k9, if_neg k8]
              exact hu k k8 k9
            · show ua 8 + 1 = _
              rw [hwa]
              exact nI_1 wa
            · refine hL1.push ?_ hB
              intro j hj
              rw [hA j hj, ← hla.symm.trans hy]
              have q0 := hrr 0 (by decide)
              rw [q0, a16, a6]
              rfl
            · rw [show wa + 1 + (rest.filter (hitS u)).length = wa + ((rest.filter (hitS u)).length + 1) by omega]
              exact hc
          refine And.intro (fun h0 => ?_) (fun h0 => ?_)
          · exact nx 0 (hla.trans h0)
          · exact nx 1 (hla.trans (h01.resolve_left h0))
        have q3 := hrr 3 (by decide)
        refine And.intro (fun h0 => ?_) (fun h0 => ?_)
        · exact wr 0 (z01_f (Int32.not_lt.mpr (by rw [← a6]; show ua 6 ≤ rf r 3; rw [← q3]; exact h0)))
        · exact wr 1 (z01_t (Int32.not_le.mp (fun z => h0 (by rw [q3, a6]; exact z))))
  refine go hX (fun pc => if pc = 9 then some 5 else none) 60 ?_
  refine c_under h1 ?_
  exact key rs [] 0 0 0 u lg R L w none (Nat.le_refl _) (by omega) rfl rfl (fun _ _ _ => rfl) hw (Nat.le_refl _) hL (fun k x hx => nomatch hx) (fun k x hx => by rw [Nat.zero_add]; exact hR k x hx) hQ
set_option maxRecDepth 20000 in
theorem c_giveUp {rs lg : List Rq} (hn : n = nI rs.length) (hm : rs.length ≤ 12) (hS : S 3 = u 5) (hR : RqOk R rs)
    (hQ : ∀ R1, RqOk R1 (giveS (u, rs, lg)).2.1 → Q (.inl none) (stA 0 (giveS (u, rs, lg)).1 (nI (giveS (u, rs, lg)).2.1.length) S R1 L)) : Tr tX6_giveUp 0 0 [.ref 0] (stA 0 u n S R L) Q := by
  refine Tr.of sX6_giveUp (by decide +kernel) (Nat.le_of_ble_eq_true rfl) fun X hX => ?_
  have key : ∀ (rest ks : List Rq) (i : Nat) (iv lv g : Int32) (R1 : Nat → Nat → Int32), ks.length ≤ i → i + rest.length = rs.length → iv = nI i → lv = nI ks.length →
      (∀ (k : Nat) (x : Rq), ks[k]? = some x → ∀ j, j < 5 → R1 j k = rf x j) → (∀ (k : Nat) (x : Rq), rest[k]? = some x → ∀ j, j < 5 → R1 j (i + k) = rf x j) →
      (∀ R2, RqOk R2 (ks ++ rest.filter (fun r => !goneS u r)) → Q (.inl none) (stA 0 (upd u 10 (g + nI (rest.countP (goneS u)))) (nI (ks ++ rest.filter (fun r => !goneS u r)).length) S R2 L)) →
      X 4 [some (.ref 0), some (.int lv), some (.int iv)] [] (stA 0 (upd u 10 g) n S R1 L) (0, 0) := by
    intro rest
    induction rest with
    | nil =>
      intro ks i iv lv g R1 hki hi hv hlv hk hr hc
      simp only [List.filter_nil, List.append_nil, List.countP_nil, List.length_nil, Nat.add_zero] at hc hi
      refine go hX (fun _ => none) 60 ?_
      refine And.intro (fun _ => ?_) (fun h => absurd (by rw [hn, hv, hi]; exact Int32.le_refl _) h)
      rw [hlv]
      have := hc R1 hk
      rw [nI_0, Int32.add_zero] at this
      exact this
    | cons r rest ih =>
      intro ks i iv lv g R1 hki hi hv hlv hk hr hc
      rw [List.length_cons] at hi
      have hl : ¬ n ≤ iv := by rw [hn, hv]; exact nI_ge (by omega) (by omega)
      have v0 : vp_in iv 12 := by rw [hv]; exact in_nI (by omega) (by decide)
      have v1 : iv.toNatClampNeg = i := by rw [hv]; exact nI_clamp (by omega)
      have q3 : R1 3 iv.toNatClampNeg = r.2.2.2.1 := by rw [v1]; exact hr 0 r rfl 3 (by decide)
      refine go hX (fun pc => if pc = 4 then some 3 else none) 60 ?_
      refine And.intro (fun h => absurd h hl) (fun _ => ⟨v0, in_lit (by decide), And.intro (fun h => ?_) (fun h => ?_)⟩)
      · have hh : goneS u r = false := decide_eq_false (fun z => Int32.not_le.mpr z (by rw [← q3, ← hS]; exact h))
        refine Tr.at [3, 4, 5, 6, 7, 8] (c_move (R := R1) (i := i) (j := ks.length) (by omega) (by omega) hv hlv ?_) rfl rfl rfl
        refine ih (ks ++ [r]) (i + 1) (iv + 1) (lv + 1) g _ (by rw [List.length_append, List.length_singleton]; omega) (by omega) (by rw [hv]; exact nI_1 i) (by rw [hlv, List.length_append, List.length_singleton]; exact nI_1 _) (rows_move hki hk hr).1 (rows_move hki hk hr).2 ?_
        have ef : (r :: rest).countP (goneS u) = rest.countP (goneS u) := List.countP_cons_of_neg (by rw [hh]; decide)
        have eg : ks ++ (r :: rest).filter (fun r => !goneS u r) = (ks ++ [r]) ++ rest.filter (fun r => !goneS u r) := by rw [List.filter_cons, hh, List.append_assoc]; rfl
        rw [ef, eg] at hc
        exact hc
      · have hh : goneS u r = true := decide_eq_true (Int32.not_le.mp (fun z => h (by rw [← q3, ← hS] at z; exact z)))
        refine ih ks (i + 1) (iv + 1) lv (g + 1) R1 (by omega) (by omega) (by rw [hv]; exact nI_1 i) hlv hk (rows_skip hr) ?_
        have ef : (r :: rest).countP (goneS u) = rest.countP (goneS u) + 1 := List.countP_cons_of_pos hh
        have eg : (r :: rest).filter (fun r => !goneS u r) = rest.filter (fun r => !goneS u r) := by rw [List.filter_cons, hh]; rfl
        have ea : g + 1 + nI (rest.countP (goneS u)) = g + nI (rest.countP (goneS u) + 1) := by rw [nI_succ, Int32.add_assoc, Int32.add_comm 1]
        rw [ef, eg, ← ea] at hc
        exact hc
  refine go hX (fun pc => if pc = 4 then some 3 else none) 60 ?_
  exact key rs [] 0 0 0 (u 10) R (Nat.le_refl _) (by omega) rfl rfl (fun k x hx => nomatch hx) (fun k x hx => by rw [Nat.zero_add]; exact hR k x hx) hQ

