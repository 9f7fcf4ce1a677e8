/-! ===== p26's law: its body ===== -/
variable {Q : AQ} {T t : Nat} {G Qa La : Nat → Int32} {a : Kp} {Mc : AM} {X : WK} {x6 x7 : Option Value}
theorem o_callS_of {n nargs : Nat} {d' : TrD} {mc ms : Nat} {K : WK} {L : AL} {st : List Value} {M : AM} {b : AB} (h1 : Nat.ble nargs st.length = true) (h2 : Nat.ble (((st.drop nargs).map Value.category).sum) 8 = true) (h3 : mc ≤ b.1) (h4 : ms ≤ b.2) (h : Tr d' mc ms (st.take nargs).reverse M (rKall n mc ms K Q L (st.drop nargs) b)) : o_callS n nargs d' mc ms K Q L st M b := by
  unfold o_callS
  rw [h1, h2, Nat.ble_eq.mpr h3, Nat.ble_eq.mpr h4]
  exact h
theorem inv_init : Inv 0 initS := ⟨by
  unfold InvU
  refine ⟨by decide, by decide, by decide, by decide, by decide, by decide, by decide, Or.inl rfl, Or.inl rfl, Or.inl rfl⟩, Nat.zero_le _, fun r hr => by simp [initS] at hr, List.Pairwise.nil, 0, 0, rfl, rfl, Nat.le_refl _, Nat.le_refl _, rfl⟩
theorem fnd_none {x : Int32} {rs : List Rq} (h : ∀ r ∈ rs, ¬ r.1 = x) : fndL x rs = none := by
  cases hf : fndL x rs with
  | none => rfl
  | some k =>
    unfold fndL at hf
    obtain ⟨h1, h2, h3⟩ := fndN_lt hf
    exact absurd h3 (h _ (mem_getD (by omega)))
theorem v_ofN {x w : Int32} {s : Sg} (h : fndL x s.2.1 = none) : requestOfA x w s = (1, 0) := by
  unfold requestOfA
  rw [h]
abbrev lwL (is : Int32) (x6 x7 : Option Value) : AL := [some (.float 23), some (.ref 0), some (.ref 83), some (.ref 84), some (.ref 85), some (.int is), x6, x7]
set_option maxRecDepth 20000 in
theorem lw_190 (hX : Clo kL_law Q X) (hQ : ∀ M, Q (.inl (some (.int 1))) M) (hS : LJ T t a G Qa La Mc) (hTT : T + 100 < 2 ^ 31) {cc ss : Nat} : X 190 (lwL 1 x6 x7) [] (Mc ++ g3 G Qa La) (cc + 8, ss + 48) := by
  have hI := hS.2.2.1.1
  have g7 : G 7 = a.1.1 7 := hS.2.2.2.1.1.1 7 (by decide)
  have f7 : fndL (G 7) a.1.2.1 = none := fnd_none fun r hr z => by
    have := (hI.2.2.1 r hr).1.2
    rw [z, g7] at this
    omega
  have fm : fndL (-1) a.1.2.1 = none := fnd_none fun r hr => toI_m1 (hI.2.2.1 r hr).1.1
  have e1 : requestAtA (-1) a.1 = (1, 0) := rfl
  have e2 : loggedA (-1) 0 a.1 = (1, 0) := rfl
  have e3 : loggedA 0 5 a.1 = (1, 0) := rfl
  have e4 : armA 6 a.1 = (1, 0) := rfl
  have e5 : wholeA 18 (nI 0) a.1 = (1, 0) := rfl
  have e6 : wholeA (-1) (nI 0) a.1 = (1, 0) := rfl
  have p280 : ∀ Mc1, LJ T t a G Qa La Mc1 → X 280 (lwL 1 x6 x7) [.int (-2000001)] (Mc1 ++ g3 G Qa La) (cc, ss) := by
    intro Mc1 h1
    refine go hX (fun _ => none) 20 ?_
    exact And.intro (fun h => absurd rfl h) (fun _ => ⟨by decide, hQ _⟩)
  have p269 : ∀ Mc1, LJ T t a G Qa La Mc1 → X 269 (lwL 1 x6 x7) [.int (-2000001)] (Mc1 ++ g3 G Qa La) (cc + 1, ss + 6) := by
    intro Mc1 h1
    refine go hX (fun pc => if pc = 280 then some 8 else none) 20 ?_
    refine And.intro (fun h => absurd rfl h) (fun _ => ?_)
    exact rd_requestOf h1 (v_ofN fm) hvl_1 (fun E M z => z) (fun Mc2 h2 => p280 Mc2 h2)
  have p254 : ∀ Mc1, LJ T t a G Qa La Mc1 → X 254 (lwL 1 x6 x7) [.int (-2000002)] (Mc1 ++ g3 G Qa La) (cc + 2, ss + 12) := by
    intro Mc1 h1
    have h1' := h1
    obtain ⟨sc, s, S, R, L, tw, f, fc, len, B, c, wn, rfl⟩ := cw_p5 Mc1 h1.2.1
    refine go hX (fun pc => if pc = 269 then some 8 else none) 20 ?_
    refine And.intro (fun h => absurd rfl h) (fun _ => ⟨in_lit (by decide), ?_⟩)
    exact rd_requestOf h1' (v_ofN f7) hvl_1 (fun E M z => z) (fun Mc2 h2 => p269 Mc2 h2)
  have p244 : ∀ Mc1, LJ T t a G Qa La Mc1 → X 244 (lwL 1 x6 x7) [.int (-2000002)] (Mc1 ++ g3 G Qa La) (cc + 3, ss + 18) := by
    intro Mc1 h1
    refine go hX (fun pc => if pc = 254 then some 8 else none) 20 ?_
    refine And.intro (fun h => absurd rfl h) (fun _ => ?_)
    exact rd_whole h1 e6 hvl_1 (fun E M z => z) (fun Mc2 h2 => p254 Mc2 h2)
  have p233 : ∀ Mc1, LJ T t a G Qa La Mc1 → X 233 (lwL 1 x6 x7) [.int (-2000002)] (Mc1 ++ g3 G Qa La) (cc + 4, ss + 24) := by
    intro Mc1 h1
    refine go hX (fun pc => if pc = 244 then some 8 else none) 20 ?_
    refine And.intro (fun h => absurd rfl h) (fun _ => ?_)
    exact rd_whole h1 e5 hvl_1 (fun E M z => z) (fun Mc2 h2 => p244 Mc2 h2)
  have p222 : ∀ Mc1, LJ T t a G Qa La Mc1 → X 222 (lwL 1 x6 x7) [.int (-2000002)] (Mc1 ++ g3 G Qa La) (cc + 5, ss + 30) := by
    intro Mc1 h1
    refine go hX (fun pc => if pc = 233 then some 8 else none) 20 ?_
    refine And.intro (fun h => absurd rfl h) (fun _ => ?_)
    exact rd_arm h1 e4 hvl_1 (fun E M z => z) (fun Mc2 h2 => p233 Mc2 h2)
  have p211 : ∀ Mc1, LJ T t a G Qa La Mc1 → X 211 (lwL 1 x6 x7) [.int (-2000002)] (Mc1 ++ g3 G Qa La) (cc + 6, ss + 36) := by
    intro Mc1 h1
    refine go hX (fun pc => if pc = 222 then some 8 else none) 20 ?_
    refine And.intro (fun h => absurd rfl h) (fun _ => ?_)
    exact rd_logged hTT h1 e3 hvl_1 (fun E M z => z) (fun Mc2 h2 => p222 Mc2 h2)
  have p200 : ∀ Mc1, LJ T t a G Qa La Mc1 → X 200 (lwL 1 x6 x7) [.int (-2000002)] (Mc1 ++ g3 G Qa La) (cc + 7, ss + 42) := by
    intro Mc1 h1
    refine go hX (fun pc => if pc = 211 then some 8 else none) 20 ?_
    refine And.intro (fun h => absurd rfl h) (fun _ => ?_)
    exact rd_logged hTT h1 e2 hvl_1 (fun E M z => z) (fun Mc2 h2 => p211 Mc2 h2)
  refine go hX (fun pc => if pc = 200 then some 8 else none) 20 ?_
  refine And.intro (fun h => absurd h (by decide)) (fun _ => ?_)
  exact rd_requestAt hS e1 hvl_1 (fun E M z => z) (fun Mc2 h2 => p200 Mc2 h2)
set_option maxRecDepth 20000 in
theorem lw_127 (hX : Clo kL_law Q X) (hQ : ∀ M, Q (.inl (some (.int 1))) M) {n : Nat} (hn : n ≤ 60) : ∀ (d i T t : Nat) (a : Kp) (G Qa La : Nat → Int32) (Mc : AM) (cc ss : Nat), i + d = n → T ≤ 5 + i → t ≤ 9500 → LJ T t a G Qa La Mc → 301 * d + 8 ≤ cc → 1806 * d + 48 ≤ ss → X 127 (lwL 1 (some (.int (nI n))) (some (.int (nI i)))) [] (Mc ++ g3 G Qa La) (cc, ss) := by
  intro d
  induction d with
  | zero =>
    intro i T t a G Qa La Mc cc ss hi hT ht hS hc hs
    obtain ⟨c1, rfl⟩ : ∃ c1, cc = c1 + 8 := ⟨cc - 8, by omega⟩
    obtain ⟨s1, rfl⟩ : ∃ s1, ss = s1 + 48 := ⟨ss - 48, by omega⟩
    refine go hX (fun pc => if pc = 190 then some 8 else none) 20 ?_
    exact And.intro (fun _ => lw_190 (X := X) hX hQ hS (by omega)) (fun h => absurd (nI_le (by omega) (by omega)) h)
  | succ d ih =>
    intro i T t a G Qa La Mc cc ss hi hT ht hS hc hs
    have p182 : ∀ T1 t1 a1 Mc2 G1 Q1 L1 cc ss, T1 ≤ T + 1 → t1 ≤ 9500 → LJ T1 t1 a1 G1 Q1 L1 Mc2 → 301 * d + 8 ≤ cc → 1806 * d + 48 ≤ ss → X 182 (lwL 1 (some (.int (nI n))) (some (.int (nI i)))) [.int 1] (Mc2 ++ g3 G1 Q1 L1) (cc, ss) := by
      intro T1 t1 a1 Mc2 G1 Q1 L1 cc ss h1 h2 h3 hc hs
      refine go hX (fun pc => if pc = 127 then some 8 else none) 20 ?_
      have := ih (i + 1) T1 t1 a1 G1 Q1 L1 Mc2 cc ss (by omega) (by omega) h2 h3 hc hs
      rw [← nI_1] at this
      exact this
    have p163 : ∀ T1 t1 a1 Mc1 G1 Q1 L1, T1 ≤ T + 1 → t1 ≤ 9500 → LJ T1 t1 a1 G1 Q1 L1 Mc1 → X 163 (lwL 1 (some (.int (nI n))) (some (.int (nI i)))) [.int 1] (Mc1 ++ g3 G1 Q1 L1) (cc - 1, ss - 6) := by
      intro T1 t1 a1 Mc1 G1 Q1 L1 h1 h2 h3
      have p174 : ∀ Mc2, LJ T1 t1 a1 G1 Q1 L1 Mc2 → X 174 (lwL 1 (some (.int (nI n))) (some (.int (nI i)))) [.int 1] (Mc2 ++ g3 G1 Q1 L1) (cc - 1 - 300, ss - 6 - 1800) := by
        intro Mc2 h4
        refine go hX (fun pc => if pc = 182 then some 8 else none) 20 ?_
        exact And.intro (fun h => absurd h (by decide)) (fun _ => p182 T1 t1 a1 Mc2 G1 Q1 L1 _ _ h1 h2 h4 (by omega) (by omega))
      have p171 : X 171 (lwL 1 (some (.int (nI n))) (some (.int (nI i)))) [.ref 85, .ref 84, .ref 83, .ref 0] (Mc1 ++ g3 G1 Q1 L1) (cc - 1, ss - 6) := by
        refine hX.1 X (fun _ _ _ _ _ h => h) 171 _ _ _ _ ?_
        show o_callS 174 4 tL_isSo 300 1800 X Q _ _ _ _
        refine o_callS_of rfl rfl (show 300 ≤ cc - 1 by omega) (show 1800 ≤ ss - 6 by omega) ?_
        exact l_isSo h3 (by omega) (fun Mc2 h4 => p174 Mc2 h4)
      refine go hX (fun pc => if pc = 171 then some 8 else none) 20 ?_
      exact And.intro (fun h => absurd h (by decide)) (fun _ => p171)
    have p160 : ∀ z : Int32, X 160 (lwL 1 (some (.int (nI n))) (some (.int (nI i)))) [.int z, .ref 85, .ref 84, .ref 83, .ref 0] (Mc ++ g3 G Qa La) (cc, ss) := by
      intro z
      refine hX.1 X (fun _ _ _ _ _ h => h) 160 _ _ _ _ ?_
      show o_callS 163 5 tL_acts 1 6 X Q _ _ _ _
      refine o_callS_of rfl rfl (show 1 ≤ cc by omega) (show 6 ≤ ss by omega) ?_
      exact l_acts hS ht (by omega) (fun T1 t1 a1 Mc1 G1 Q1 L1 h1 h2 h3 => p163 T1 t1 a1 Mc1 G1 Q1 L1 h1 h2 h3)
    refine go hX (fun pc => if pc = 160 then some 8 else none) 30 ?_
    refine And.intro (fun h => absurd h (nI_ge (by omega) (by omega))) (fun _ => And.intro (fun h => absurd h (by decide)) (fun _ => ?_))
    refine l_cell ?_ (fun x => p160 _)
    show 0 ≤ ((6 : Int32) + nI i).toInt
    rw [show (6 : Int32) + nI i = nI (6 + i) from nI_add 6 i, nI_toInt (by omega)]
    omega
set_option maxRecDepth 20000 in
theorem lw_61 (hX : Clo kL_law Q X) (hQ : ∀ M, Q (.inl (some (.int 1))) M) : ∀ (d i T t : Nat) (a : Kp) (G Qa La : Nat → Int32) (Mc : AM) (cc ss : Nat), i + d = 5 → T ≤ i → t ≤ 9500 → LJ T t a G Qa La Mc → d + 20000 ≤ cc → 6 * d + 120000 ≤ ss → X 61 (lwL 1 (some (.int (nI i))) none) [] (Mc ++ g3 G Qa La) (cc, ss) := by
  intro d
  induction d with
  | zero =>
    intro i T t a G Qa La Mc cc ss hi hT ht hS hc hs
    have p121 : ∀ j, j < 42 → X 121 (lwL 1 (some (.int (nI i))) none) [.int (nI j), .int 8] (Mc ++ g3 G Qa La) (cc, ss) := by
      intro j hj
      refine go hX (fun pc => if pc = 127 then some 8 else none) 20 ?_
      have := lw_127 (X := X) hX hQ (n := 8 + j) (by omega) (8 + j) 0 T t a G Qa La Mc cc ss (by omega) (by omega) ht hS (by omega) (by omega)
      rw [← nI_add 8 j] at this
      exact this
    have p116 : ∀ x : Int32, X 116 (lwL 1 (some (.int (nI i))) none) [.int x, .int 8] (Mc ++ g3 G Qa La) (cc, ss) := by
      intro x
      refine go hX (fun pc => if pc = 121 then some 8 else none) 20 ?_
      exact l_low (N := 42) rfl (by decide) (by decide) (fun j hj => p121 j hj)
    have p109 : X 109 (lwL 1 (some (.int (nI i))) none) [] (Mc ++ g3 G Qa La) (cc, ss) := by
      refine go hX (fun pc => if pc = 116 then some 8 else none) 20 ?_
      exact l_cell (by decide) (fun x => p116 x)
    refine go hX (fun pc => if pc = 109 then some 8 else none) 20 ?_
    exact And.intro (fun _ => p109) (fun h => absurd (nI_le (a := 5) (by omega) (by omega)) h)
  | succ d ih =>
    intro i T t a G Qa La Mc cc ss hi hT ht hS hc hs
    have d768 : ¬ (768 : Int32) = 0 := by decide
    have p101 : ∀ T1 t1 a1 Mc1 G1 Q1 L1, T1 ≤ T + 1 → t1 ≤ 9500 → LJ T1 t1 a1 G1 Q1 L1 Mc1 → X 101 (lwL 1 (some (.int (nI i))) none) [.int 1] (Mc1 ++ g3 G1 Q1 L1) (cc - 1, ss - 6) := by
      intro T1 t1 a1 Mc1 G1 Q1 L1 h1 h2 h3
      refine go hX (fun pc => if pc = 61 then some 8 else none) 20 ?_
      have := ih (i + 1) T1 t1 a1 G1 Q1 L1 Mc1 (cc - 1) (ss - 6) (by omega) (by omega) h2 h3 (by omega) (by omega)
      rw [← nI_1] at this
      exact this
    have p98 : ∀ z : Int32, X 98 (lwL 1 (some (.int (nI i))) none) [.int z, .ref 85, .ref 84, .ref 83, .ref 0] (Mc ++ g3 G Qa La) (cc, ss) := by
      intro z
      refine hX.1 X (fun _ _ _ _ _ h => h) 98 _ _ _ _ ?_
      show o_callS 101 5 tL_acts 1 6 X Q _ _ _ _
      refine o_callS_of rfl rfl (show 1 ≤ cc by omega) (show 6 ≤ ss by omega) ?_
      exact l_acts hS ht (by omega) (fun T1 t1 a1 Mc1 G1 Q1 L1 h1 h2 h3 => p101 T1 t1 a1 Mc1 G1 Q1 L1 h1 h2 h3)
    have p85 : ∀ x : Int32, X 85 (lwL 1 (some (.int (nI i))) none) [.int x, .ref 85, .ref 84, .ref 83, .ref 0] (Mc ++ g3 G Qa La) (cc, ss) := by
      intro x
      refine go hX (fun pc => if pc = 98 then some 8 else none) 20 ?_
      exact ⟨d768, p98 _⟩
    refine go hX (fun pc => if pc = 85 then some 8 else none) 30 ?_
    refine And.intro (fun h => absurd h (nI_ge (b := 5) (by omega) (by decide))) (fun _ => And.intro (fun h => absurd h (by decide)) (fun _ => ?_))
    refine l_cell ?_ (fun x => p85 x)
    show 0 ≤ ((1 : Int32) + nI i).toInt
    rw [show (1 : Int32) + nI i = nI (1 + i) from nI_add 1 i, nI_toInt (by omega)]
    omega
abbrev Zf : Nat → Int32 := fun _ => 0
set_option maxRecDepth 20000 in
theorem lw_body (hX : Clo kL_law Q X) (hQ : ∀ M, Q (.inl (some (.int 1))) M) : X 0 [some (.float 23), none, none, none, none, none, none, none] [] [] (672282, 7084621) := by
  have p56 : ∀ Mc1 G cc ss, 30000 ≤ cc → 200000 ≤ ss → LJ 0 0 (initS, []) G Zf Zf Mc1 → X 56 [some (.float 23), some (.ref 0), some (.ref 83), some (.ref 84), some (.ref 85), none, none, none] [.int 1] (Mc1 ++ g3 G Zf Zf) (cc - 300, ss - 1800) := by
    intro Mc1 G cc ss hcc hss h1
    refine go hX (fun pc => if pc = 61 then some 8 else none) 20 ?_
    exact lw_61 (X := X) hX hQ 5 0 0 0 (initS, []) G Zf Zf Mc1 _ _ rfl (Nat.le_refl _) (Nat.zero_le _) h1 (by omega) (by omega)
  have p53 : ∀ Mc1 G cc ss, 30000 ≤ cc → 200000 ≤ ss → LJ 0 0 (initS, []) G Zf Zf Mc1 → X 53 [some (.float 23), some (.ref 0), some (.ref 83), some (.ref 84), some (.ref 85), none, none, none] [.ref 85, .ref 84, .ref 83, .ref 0] (Mc1 ++ g3 G Zf Zf) (cc, ss) := by
    intro Mc1 G cc ss hcc hss h1
    refine hX.1 X (fun _ _ _ _ _ h => h) 53 _ _ _ _ ?_
    show o_callS 56 4 tL_isSo 300 1800 X Q _ _ _ _
    refine o_callS_of rfl rfl (show 300 ≤ cc by omega) (show 1800 ≤ ss by omega) ?_
    exact l_isSo h1 (by omega) (fun Mc2 h4 => p56 Mc2 G cc ss hcc hss h4)
  have p24 : ∀ Mc, mcl Mc → CW 0 (initS, []) 0 b0 Mc → X 24 [some (.float 23), some (.ref 0), some (.ref 83), some (.ref 84), some (.ref 85), none, none, none] [] (Mc ++ g3 Zf Zf Zf) (672178, 7078481) := by
    intro Mc hM hC
    have hfin : ∀ G, GOk G initS → X 53 [some (.float 23), some (.ref 0), some (.ref 83), some (.ref 84), some (.ref 85), none, none, none] [.ref 85, .ref 84, .ref 83, .ref 0] (Mc ++ g3 G Zf Zf) (672178, 7078481) := fun G hG => p53 Mc G _ _ (by decide) (by decide) ⟨hM, hC, ⟨inv_init, fun s hs => nomatch hs⟩, ⟨hG, fun k r h => by simp [initS] at h, fun k r h => by simp [initS] at h⟩, by rw [nI_0]; rfl, ⟨0, by rw [nI_0]; rfl, by omega⟩, fun e he => nomatch he⟩
    obtain ⟨sc, s, S, R, L, tw, f, fc, len, B, c, wn, rfl⟩ := cw_p5 Mc hC
    refine go hX (fun pc => if pc = 53 then some 8 else none) 60 ?_
    refine ⟨in_lit (by decide), in_lit (by decide), in_lit (by decide), in_lit (by decide), in_lit (by decide), ?_⟩
    refine hfin (upd (upd (upd (upd (upd Zf 0 12) 1 6) 3 3) 4 30) 20 1) ⟨fun k hk => ?_, rfl, rfl⟩
    rcases (show k = 0 ∨ k = 1 ∨ k = 2 ∨ k = 3 ∨ k = 4 ∨ k = 5 ∨ k = 6 ∨ k = 7 ∨ k = 8 ∨ k = 9 ∨ k = 10 ∨ k = 11 ∨ k = 12 ∨ k = 13 ∨ k = 14 ∨ k = 15 ∨ k = 16 ∨ k = 17 ∨ k = 18 ∨ k = 19 ∨ k = 20 by omega) with rfl | rfl | rfl | rfl | rfl | rfl | rfl | rfl | rfl | rfl | rfl | rfl | rfl | rfl | rfl | rfl | rfl | rfl | rfl | rfl | rfl <;> rfl
  have p7 : ∀ Mc, mcl Mc → CW 0 (initS, []) 0 b0 Mc → X 7 [some (.float 23), none, none, none, none, none, none, none] [.ref 0] Mc (672181, 7078614) := by
    intro Mc hM hC
    have h24 := p24 Mc hM hC
    obtain ⟨sc, s, S, R, L, tw, f, fc, len, B, c, wn, rfl⟩ := cw_p5 Mc hC
    refine go hX (fun pc => if pc = 24 then some 8 else none) 20 ?_
    exact ⟨rfl, rfl, rfl, h24⟩
  refine go hX (fun pc => if pc = 7 then some 8 else none) 20 ?_
  refine Tr.mono (Tr.wcl (p_init (Q := fun o M => o = .inl none ∧ ∀ b, CW 0 (initS, []) 0 b M) (fun M hC => ⟨rfl, hC⟩))) (fun o M q => ?_)
  obtain ⟨⟨rfl, hC⟩, hM⟩ := q
  exact p7 M hM (hC b0)
