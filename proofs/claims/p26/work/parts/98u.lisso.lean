/-! ===== p26's law: what it asks of the object between two acts ===== -/
variable {Q : AQ} {T t : Nat} {G Qa La : Nat → Int32} {a : Kp} {Mc : AM} {X : WK} {x6 : Option Value}
theorem rd_requestOf {x w k v y : Int32} (hS : LJ T t a G Qa La Mc) (e : requestOfA x w a.1 = (k, v)) (hy : hvl k v (-2000001) (-2000002) = y) (hno : ∀ E M, ¬ Q (.inr E) M) (hQ : ∀ Mc1, LJ T t a G Qa La Mc1 → Q (.inl (some (.int y))) (Mc1 ++ g3 G Qa La)) : TrH tL_requestOf hhL_requestOf 1 6 [.ref 0, .int x, .int w] (Mc ++ g3 G Qa La) Q := by
  obtain ⟨hM, hC, hA, hT, hL⟩ := hS
  have ho := oc_requestOf hA hC (x := x) (w := w)
  have hk := k_requestOf (x := x) (w := w) (s := a.1)
  rw [e] at ho hk
  obtain ⟨sc, s, S, R, L, tw, f, fc, len, B, c, wn, rfl⟩ := cw_p5 Mc hC
  refine h_requestOf (P := CW T a 0 b0) cw_p5 hM ho hk hno (fun Mc1 h1 h2 => ?_)
  have := hQ Mc1 ⟨h2, h1, hA, hT, hL⟩
  rw [← hy] at this
  exact this
theorem rd_requestAt {x k v y : Int32} (hS : LJ T t a G Qa La Mc) (e : requestAtA x a.1 = (k, v)) (hy : hvl k v (-2000002) (-2000002) = y) (hno : ∀ E M, ¬ Q (.inr E) M) (hQ : ∀ Mc1, LJ T t a G Qa La Mc1 → Q (.inl (some (.int y))) (Mc1 ++ g3 G Qa La)) : TrH tL_requestAt hhL_requestAt 1 6 [.ref 0, .int x] (Mc ++ g3 G Qa La) Q := by
  obtain ⟨hM, hC, hA, hT, hL⟩ := hS
  have ho := oc_requestAt hA hC (p := x)
  have hk := k_requestAt (p := x) (s := a.1)
  rw [e] at ho hk
  obtain ⟨sc, s, S, R, L, tw, f, fc, len, B, c, wn, rfl⟩ := cw_p5 Mc hC
  refine h_requestAt (P := CW T a 0 b0) cw_p5 hM ho hk hno (fun Mc1 h1 h2 => ?_)
  have := hQ Mc1 ⟨h2, h1, hA, hT, hL⟩
  rw [← hy] at this
  exact this
theorem rd_logged {x w k v y : Int32} (hTT : T + 100 < 2 ^ 31) (hS : LJ T t a G Qa La Mc) (e : loggedA x w a.1 = (k, v)) (hy : hvl k v (-2000002) (-2000002) = y) (hno : ∀ E M, ¬ Q (.inr E) M) (hQ : ∀ Mc1, LJ T t a G Qa La Mc1 → Q (.inl (some (.int y))) (Mc1 ++ g3 G Qa La)) : TrH tL_loggedOf hhL_loggedOf 1 6 [.ref 0, .int x, .int w] (Mc ++ g3 G Qa La) Q := by
  obtain ⟨hM, hC, hA, hT, hL⟩ := hS
  have ho := oc_logged hA (by omega) hC (x := x) (w := w)
  have hk := k_logged (x := x) (w := w) (s := a.1)
  rw [e] at ho hk
  obtain ⟨sc, s, S, R, L, tw, f, fc, len, B, c, wn, rfl⟩ := cw_p5 Mc hC
  refine h_loggedOf (P := CW T a 0 b0) cw_p5 hM ho hk hno (fun Mc1 h1 h2 => ?_)
  have := hQ Mc1 ⟨h2, h1, hA, hT, hL⟩
  rw [← hy] at this
  exact this
theorem rd_arm {w k v y : Int32} (hS : LJ T t a G Qa La Mc) (e : armA w a.1 = (k, v)) (hy : hvl k v (-2000002) (-2000002) = y) (hno : ∀ E M, ¬ Q (.inr E) M) (hQ : ∀ Mc1, LJ T t a G Qa La Mc1 → Q (.inl (some (.int y))) (Mc1 ++ g3 G Qa La)) : TrH tL_armOf hhL_armOf 1 6 [.ref 0, .int w] (Mc ++ g3 G Qa La) Q := by
  obtain ⟨hM, hC, hA, hT, hL⟩ := hS
  have ho := oc_arm hA hC (w := w)
  have hk := k_arm (w := w) (s := a.1)
  rw [e] at ho hk
  obtain ⟨sc, s, S, R, L, tw, f, fc, len, B, c, wn, rfl⟩ := cw_p5 Mc hC
  refine h_armOf (P := CW T a 0 b0) cw_p5 hM ho hk hno (fun Mc1 h1 h2 => ?_)
  have := hQ Mc1 ⟨h2, h1, hA, hT, hL⟩
  rw [← hy] at this
  exact this
theorem rd_whole {w k v y : Int32} (hS : LJ T t a G Qa La Mc) (e : wholeA w (nI 0) a.1 = (k, v)) (hy : hvl k v (-2000002) (-2000002) = y) (hno : ∀ E M, ¬ Q (.inr E) M) (hQ : ∀ Mc1, LJ T t a G Qa La Mc1 → Q (.inl (some (.int y))) (Mc1 ++ g3 G Qa La)) : TrH tL_wholeOf hhL_wholeOf 1 6 [.ref 0, .int w] (Mc ++ g3 G Qa La) Q := by
  obtain ⟨hM, hC, hA, hT, hL⟩ := hS
  have ho := oc_whole hA hC (w := w)
  have hk := k_whole (w := w) (t := nI 0) (s := a.1)
  rw [e] at ho hk
  obtain ⟨sc, s, S, R, L, tw, f, fc, len, B, c, wn, rfl⟩ := cw_p5 Mc hC
  refine h_wholeOf (P := CW T a 0 b0) cw_p5 hM ho hk hno (fun Mc1 h1 h2 => ?_)
  have := hQ Mc1 ⟨h2, h1, hA, hT, hL⟩
  rw [← hy] at this
  exact this
/-! the values -/
theorem in_c {w hi : Int32} {j c : Nat} (hw : w = nI j) (hh : hi.toInt = (c : Int)) (hj : j ≤ c) (hc : c < 1000) : inI w 0 hi = true :=
  inI_t (Int32.le_iff_toInt_le.mpr (by rw [hw, nI_toInt (by omega), i32_0]; omega)) (Int32.le_iff_toInt_le.mpr (by rw [hw, nI_toInt (by omega), hh]; omega))
theorem v_arm {s : Sg} {w : Int32} {j : Nat} (hw : w = nI j) (hj : j ≤ 5) : armA w s = (0, armV s.1 j) := by
  unfold armA
  rw [in_c hw (c := 5) (by decide) hj (by decide), if_pos rfl, hw, nI_clamp (by omega)]
theorem v_whole {s : Sg} {w : Int32} {j : Nat} (hw : w = nI j) (hj : j ≤ 17) : wholeA w (nI 0) s = (0, wholeV s (nI 0) j) := by
  unfold wholeA
  rw [in_c hw (c := 17) (by decide) hj (by decide), if_pos rfl, hw, nI_clamp (by omega)]
theorem v_logged {s : Sg} {x w : Int32} {b j : Nat} (hx : x = nI b) (hb : b < 1000) (hw : w = nI j) (hj : j ≤ 4) : loggedA x w s = (0, if nI b < nI s.2.2.length then rf (s.2.2.getD b d0) j else -1) := by
  unfold loggedA logV
  rw [if_neg (by rw [hx]; exact nI_pos (by omega)), in_c hw (c := 4) (by decide) hj (by decide), if_pos rfl, hw, hx, nI_clamp (by omega), nI_clamp (by omega)]
theorem v_at {s : Sg} {p : Int32} {k : Nat} (hp : p = nI k) (hk : k < 1000) : requestAtA p s = (0, if nI k < nI s.2.1.length then (s.2.1.getD k d0).1 else -1) := by
  unfold requestAtA
  rw [hp, if_neg (nI_pos (by omega)), nI_clamp (by omega)]
theorem fndN_hit {f : Nat → Int32} {x : Int32} : ∀ {m i k : Nat}, i ≤ k → k < i + m → f k = x → (∀ l, i ≤ l → l < k → ¬ f l = x) → fndN f x m i = some k
  | 0, i, k, h1, h2, _, _ => by omega
  | m + 1, i, k, h1, h2, h3, h4 => by
    unfold fndN
    by_cases hik : i = k
    · subst hik
      rw [if_pos h3]
    · rw [if_neg (h4 i (Nat.le_refl _) (by omega))]
      exact fndN_hit (by omega) (by omega) h3 (fun l a b => h4 l (by omega) b)
theorem fnd_own {s : Sg} (hI : Inv T s) {k : Nat} (hk : k < s.2.1.length) : fndL (s.2.1.getD k d0).1 s.2.1 = some k := by
  unfold fndL
  refine fndN_hit (Nat.zero_le _) (by omega) rfl (fun l _ hl z => ?_)
  have := List.pairwise_iff_getElem.mp hI.2.2.2.1 l k (by omega) hk hl
  rw [List.getD_eq_getElem?_getD, List.getD_eq_getElem?_getD, List.getElem?_eq_getElem hk, List.getElem?_eq_getElem (show l < s.2.1.length by omega)] at z
  have z2 : (s.2.1[l]).1 = (s.2.1[k]).1 := z
  rw [z2] at this
  omega
theorem v_of {s : Sg} (hI : Inv T s) {k j : Nat} {w : Int32} (hk : k < s.2.1.length) (hw : w = nI j) (hj : j ≤ 5) : requestOfA (s.2.1.getD k d0).1 w s = (0, toldV s.1 (s.2.1.getD k d0) j) := by
  unfold requestOfA
  rw [fnd_own hI hk]
  dsimp only
  rw [in_c hw (c := 5) (by decide) hj (by decide), if_pos rfl, hw, nI_clamp (by omega)]
theorem v_of6 {s : Sg} (hI : Inv T s) {k : Nat} (hk : k < s.2.1.length) : requestOfA (s.2.1.getD k d0).1 6 s = (2, 0) := by
  unfold requestOfA
  rw [fnd_own hI hk]
  rfl
abbrev isL (k : Int32) (x6 : Option Value) : AL := [some (.ref 0), some (.ref 83), some (.ref 84), some (.ref 85), some (.int 1), some (.int k), x6]
def IsQ (Q : AQ) (T t : Nat) (a : Kp) (G Qa La : Nat → Int32) : Prop := ∀ Mc1, LJ T t a G Qa La Mc1 → Q (.inl (some (.int 1))) (Mc1 ++ g3 G Qa La)
theorem cr1 {cc ss d : Nat} (hc : d + 1 ≤ cc) (hs : 6 * (d + 1) ≤ ss) : ∃ c s, cc = c + 1 ∧ ss = s + 6 ∧ d ≤ c ∧ 6 * d ≤ s := ⟨cc - 1, ss - 6, by omega, by omega, by omega, by omega⟩
set_option maxRecDepth 20000 in
theorem is_451 (hX : Clo kL_isSo Q X) (hS : LJ T t a G Qa La Mc) {cc ss : Nat} (hc : 0 + 1 ≤ cc) (hs : 6 * (0 + 1) ≤ ss) (hQ : IsQ Q T t a G Qa La) {k : Int32} : X 451 (isL k x6) [] (Mc ++ g3 G Qa La) (cc, ss) := by
  obtain ⟨c1, s1, rfl, rfl, -, -⟩ := cr1 hc hs
  have hlen := hS.2.2.1.1.2.1
  have g21 : G 21 = nI a.1.2.1.length := hS.2.2.2.1.1.2.1
  have e := v_at (s := a.1) (p := G 21) g21 (by omega)
  rw [if_neg (by rw [Int32.lt_iff_toInt_lt]; omega)] at e
  have p464 : ∀ Mc1, LJ T t a G Qa La Mc1 → X 464 (isL k x6) [.int (-1)] (Mc1 ++ g3 G Qa La) (c1, s1) := by
    intro Mc1 h1
    refine go hX (fun _ => none) 20 ?_
    exact And.intro (fun h => absurd rfl h) (fun _ => ⟨by decide, hQ Mc1 h1⟩)
  obtain ⟨sc, s, S, R, L, tw, f, fc, len, B, c, wn, rfl⟩ := cw_p5 Mc hS.2.1
  refine go hX (fun pc => if pc = 464 then some 7 else none) 20 ?_
  refine And.intro (fun h => absurd h (by decide)) (fun _ => ⟨in_lit (by decide), ?_⟩)
  exact rd_requestAt hS e hvl_0 (fun E M z => z) (fun Mc1 h1 => p464 Mc1 h1)
set_option maxRecDepth 20000 in
theorem is_393 (hX : Clo kL_isSo Q X) (hQ : IsQ Q T t a G Qa La) : ∀ (d i : Nat) (Mc : AM) (cc ss : Nat), i + d = 6 → LJ T t a G Qa La Mc → d + 0 + 1 ≤ cc → 6 * (d + 0 + 1) ≤ ss → X 393 (isL (nI i) x6) [] (Mc ++ g3 G Qa La) (cc, ss) := by
  intro d
  induction d with
  | zero =>
    intro i Mc cc ss hi hS hc hs
    refine go hX (fun pc => if pc = 451 then some 7 else none) 20 ?_
    exact And.intro (fun _ => is_451 (X := X) hX hS (by omega) (by omega) hQ) (fun h => absurd (nI_le (a := 6) (by omega) (by omega)) h)
  | succ d ih =>
    intro i Mc cc ss hi hS hc hs
    obtain ⟨c1, s1, rfl, rfl, hc1, hs1⟩ := cr1 (d := d + 0 + 1) (by omega) (by omega)
    have hT := hS.2.2.2.1
    have hI := hS.2.2.1.1
    have u1 : ¬ G 1 = 0 := by rw [hT.1.1 1 (by decide)]; exact toI_ne0 (by have : 3 ≤ (a.1.1 1).toInt := hI.1.2.1.1; omega)
    have p443 : ∀ Mc1, LJ T t a G Qa La Mc1 → X 443 (isL (nI i) x6) [.int 1] (Mc1 ++ g3 G Qa La) (c1, s1) := by
      intro Mc1 h1
      refine go hX (fun pc => if pc = 393 then some 7 else none) 20 ?_
      have := ih (i + 1) Mc1 c1 s1 (by omega) h1 (by omega) (by omega)
      rw [← nI_1] at this
      exact this
    have p411 : ∀ Mc1, LJ T t a G Qa La Mc1 → X 411 (isL (nI i) x6) [.int (armV a.1.1 i)] (Mc1 ++ g3 G Qa La) (c1, s1) := by
      intro Mc1 h1
      have h1' := h1
      obtain ⟨sc, s, S, R, L, tw, f, fc, len, B, c, wn, rfl⟩ := cw_p5 Mc1 h1.2.1
      have e16 : (16 : Int32) + nI i = nI (16 + i) := nI_add 16 i
      have c16 : ((16 : Int32) + nI i).toNatClampNeg = 16 + i := by rw [e16]; exact nI_clamp (by omega)
      refine go hX (fun pc => if pc = 443 then some 7 else none) 40 ?_
      refine And.intro (fun h => ⟨in_lit (by decide), in_lit (by decide), u1, And.intro (fun h2 => absurd ?_ h2) (fun _ => p443 _ h1')⟩) (fun h => ⟨by rw [e16]; exact in_nI (by omega) (by decide), And.intro (fun h2 => absurd ?_ h2) (fun _ => p443 _ h1')⟩)
      · show armV a.1.1 i = G 6 % G 1
        have h5 : 5 ≤ i := (nI_leI (a := 5) (by decide) (by omega)).mp h
        unfold armV
        rw [if_neg (by omega), hT.1.1 6 (by decide), hT.1.1 1 (by decide)]
      · show armV a.1.1 i = G ((16 : Int32) + nI i).toNatClampNeg
        have h5 : ¬ 5 ≤ i := fun z => h (nI_le (a := 5) z (by omega))
        unfold armV
        rw [if_pos (by omega), c16, hT.1.1 (16 + i) (by omega)]
    refine go hX (fun pc => if pc = 411 then some 7 else none) 20 ?_
    refine And.intro (fun h => absurd h (nI_ge (b := 6) (by omega) (by decide))) (fun _ => And.intro (fun h => absurd h (by decide)) (fun _ => ?_))
    exact rd_arm hS (v_arm (s := a.1) (j := i) rfl (by omega)) hvl_0 (fun E M z => z) (fun Mc1 h1 => p411 Mc1 h1)
set_option maxRecDepth 20000 in
theorem is_311 (hX : Clo kL_isSo Q X) (hQ : IsQ Q T t a G Qa La) : ∀ (d i : Nat) (Mc : AM) (cc ss : Nat), i + d = 18 → LJ T t a G Qa La Mc → d + 7 + 1 ≤ cc → 6 * (d + 7 + 1) ≤ ss → X 311 (isL (nI i) x6) [] (Mc ++ g3 G Qa La) (cc, ss) := by
  intro d
  induction d with
  | zero =>
    intro i Mc cc ss hi hS hc hs
    have p390 : X 390 (isL (nI i) x6) [] (Mc ++ g3 G Qa La) (cc, ss) := by
      refine go hX (fun pc => if pc = 393 then some 7 else none) 20 ?_
      exact is_393 (X := X) hX hQ 6 0 Mc cc ss (by omega) hS (by omega) (by omega)
    refine go hX (fun pc => if pc = 390 then some 7 else none) 20 ?_
    exact And.intro (fun _ => p390) (fun h => absurd (nI_le (a := 18) (by omega) (by omega)) h)
  | succ d ih =>
    intro i Mc cc ss hi hS hc hs
    obtain ⟨c1, s1, rfl, rfl, hc1, hs1⟩ := cr1 (d := d + 7 + 1) (by omega) (by omega)
    have hT := hS.2.2.2.1
    have p382 : ∀ Mc1, LJ T t a G Qa La Mc1 → X 382 (isL (nI i) x6) [.int 1] (Mc1 ++ g3 G Qa La) (c1, s1) := by
      intro Mc1 h1
      refine go hX (fun pc => if pc = 311 then some 7 else none) 20 ?_
      have := ih (i + 1) Mc1 c1 s1 (by omega) h1 (by omega) (by omega)
      rw [← nI_1] at this
      exact this
    have p374 : ∀ Mc1 y, LJ T t a G Qa La Mc1 → y = wholeV a.1 (nI 0) i → X 374 (isL (nI i) x6) [.int y, .int (wholeV a.1 (nI 0) i)] (Mc1 ++ g3 G Qa La) (c1, s1) := by
      intro Mc1 y h1 hy
      refine go hX (fun pc => if pc = 382 then some 7 else none) 20 ?_
      exact And.intro (fun h => absurd hy.symm h) (fun _ => p382 _ h1)
    have p329 : ∀ Mc1, LJ T t a G Qa La Mc1 → X 329 (isL (nI i) x6) [.int (wholeV a.1 (nI 0) i)] (Mc1 ++ g3 G Qa La) (c1, s1) := by
      intro Mc1 h1
      have h1' := h1
      obtain ⟨sc, s, S, R, L, tw, f, fc, len, B, c, wn, rfl⟩ := cw_p5 Mc1 h1.2.1
      have ci : (nI i).toNatClampNeg = i := nI_clamp (by omega)
      have vi : vp_in (nI i) 23 := in_nI (by omega) (by decide)
      refine go hX (fun pc => if pc = 374 then some 7 else none) 40 ?_
      refine And.intro (fun h => And.intro (fun h2 => And.intro (fun h3 => ⟨?_, ?_⟩) (fun h3 => ?_)) (fun h2 => ⟨in_lit (by decide), ?_⟩)) (fun h => ⟨vi, ?_⟩)
      · have h7 : 7 ≤ i := (nI_leI (a := 7) (by decide) (by omega)).mp h
        rw [show nI i - 1 = nI (i - 1) from sub_nI (a := i) (b := 1) (by omega)]
        exact in_nI (by omega) (by decide)
      · have h7 : 7 ≤ i := (nI_leI (a := 7) (by decide) (by omega)).mp h
        have n7 : ¬ i = 7 := fun z => h2 (by rw [z]; rfl)
        have n17 : ¬ i = 17 := fun z => h3 (by rw [z]; rfl)
        refine p374 _ _ h1' ?_
        have ei : (nI i - 1).toNatClampNeg = i - 1 := by rw [show nI i - 1 = nI (i - 1) from sub_nI (a := i) (b := 1) (by omega)]; exact nI_clamp (by omega)
        unfold wholeV
        rw [if_neg (by omega), if_neg n7, if_neg n17]
        show G (nI i - 1).toNatClampNeg = _
        rw [ei, hT.1.1 (i - 1) (by omega)]
      · have h17 : i = 17 := (nI_eq (b := 17) (by omega) (by decide)).mp h3
        refine p374 _ _ h1' ?_
        unfold wholeV
        rw [if_neg (by omega), if_neg (by omega), if_pos h17, nI_0]
      · have h7 : i = 7 := (nI_eq (b := 7) (by omega) (by decide)).mp h2
        refine p374 _ _ h1' ?_
        unfold wholeV
        rw [if_neg (by omega), if_pos h7]
        exact hT.1.2.1
      · have h7 : ¬ 7 ≤ i := fun z => h (nI_le (a := 7) z (by omega))
        rw [ci]
        refine p374 _ _ h1' ?_
        unfold wholeV
        rw [if_pos (by omega), hT.1.1 i (by omega)]
    refine go hX (fun pc => if pc = 329 then some 7 else none) 20 ?_
    refine And.intro (fun h => absurd h (nI_ge (b := 18) (by omega) (by decide))) (fun _ => And.intro (fun h => absurd h (by decide)) (fun _ => ?_))
    exact rd_whole hS (v_whole (s := a.1) (j := i) rfl (by omega)) hvl_0 (fun E M z => z) (fun Mc1 h1 => p329 Mc1 h1)
set_option maxRecDepth 20000 in
theorem is_258 (hX : Clo kL_isSo Q X) (hTT : T + 100 < 2 ^ 31) (hQ : IsQ Q T t a G Qa La) (h22 : a.1.2.2.length ≤ 10) : ∀ (d i : Nat) (Mc : AM) (cc ss : Nat), i + d = a.1.2.2.length → LJ T t a G Qa La Mc → 3 * d + 26 ≤ cc → 6 * (3 * d + 26) ≤ ss → X 258 (isL (nI i) x6) [] (Mc ++ g3 G Qa La) (cc, ss) := by
  intro d
  induction d with
  | zero =>
    intro i Mc cc ss hi hS hc hs
    have g22 : G 22 = nI a.1.2.2.length := hS.2.2.2.1.1.2.2
    have p308 : X 308 (isL (nI i) x6) [] (Mc ++ g3 G Qa La) (cc, ss) := by
      refine go hX (fun pc => if pc = 311 then some 7 else none) 20 ?_
      exact is_311 (X := X) hX hQ 18 0 Mc cc ss (by omega) hS (by omega) (by omega)
    obtain ⟨sc, s, S, R, L, tw, f, fc, len, B, c, wn, rfl⟩ := cw_p5 Mc hS.2.1
    refine go hX (fun pc => if pc = 308 then some 7 else none) 20 ?_
    exact ⟨in_lit (by decide), And.intro (fun _ => p308) (fun h => absurd (show G 22 ≤ nI i by rw [g22, show i = a.1.2.2.length by omega]; exact Int32.le_refl _) h)⟩
  | succ d ih =>
    intro i Mc cc ss hi hS hc hs
    have hT := hS.2.2.2.1
    have hI := hS.2.2.1.1
    have g22 : G 22 = nI a.1.2.2.length := hT.1.2.2
    obtain ⟨c1, rfl⟩ : ∃ c1, cc = c1 + 3 := ⟨cc - 3, by omega⟩
    obtain ⟨s1, rfl⟩ : ∃ s1, ss = s1 + 18 := ⟨ss - 18, by omega⟩
    have hil : i < a.1.2.2.length := by omega
    have hlt : nI i < nI a.1.2.2.length := nI_lt hil (by omega)
    obtain ⟨e, he⟩ : ∃ e, a.1.2.2.getD i d0 = e := ⟨_, rfl⟩
    have hem : e.2.2.2.1 % a.1.1 1 = e.2.2.1 := hS.2.2.2.2.2.2 e (by rw [← he]; exact mem_getD hil)
    have u1 : ¬ a.1.1 1 = 0 := toI_ne0 (by have : 3 ≤ (a.1.1 1).toInt := hI.1.2.1.1; omega)
    have p292 : ∀ Mc1, LJ T t a G Qa La Mc1 → X 292 (isL (nI i) x6) [.int e.2.2.1, .int (e.2.2.2.1 % a.1.1 1)] (Mc1 ++ g3 G Qa La) (c1, s1) := by
      intro Mc1 h1
      refine go hX (fun pc => if pc = 258 then some 7 else none) 20 ?_
      refine And.intro (fun h => absurd hem h) (fun _ => ?_)
      have := ih (i + 1) Mc1 c1 s1 (by omega) h1 (by omega) (by omega)
      rw [← nI_1] at this
      exact this
    have p284 : ∀ Mc1, LJ T t a G Qa La Mc1 → X 284 (isL (nI i) x6) [.int (a.1.1 1), .int e.2.2.2.1] (Mc1 ++ g3 G Qa La) (c1 + 1, s1 + 6) := by
      intro Mc1 h1
      refine go hX (fun pc => if pc = 292 then some 7 else none) 20 ?_
      refine ⟨u1, ?_⟩
      have ev := v_logged (s := a.1) (x := nI i) (w := 2) (b := i) (j := 2) rfl (by omega) rfl (by decide)
      rw [if_pos hlt, he] at ev
      exact rd_logged hTT h1 ev hvl_0 (fun E M z => z) (fun Mc2 h2 => p292 Mc2 h2)
    have p279 : ∀ Mc1, LJ T t a G Qa La Mc1 → X 279 (isL (nI i) x6) [.int e.2.2.2.1] (Mc1 ++ g3 G Qa La) (c1 + 2, s1 + 12) := by
      intro Mc1 h1
      refine go hX (fun pc => if pc = 284 then some 7 else none) 20 ?_
      exact rd_whole h1 (v_whole (s := a.1) (w := 1) (j := 1) rfl (by decide)) hvl_0 (fun E M z => z) (fun Mc2 h2 => p284 Mc2 h2)
    have p267 : X 267 (isL (nI i) x6) [] (Mc ++ g3 G Qa La) (c1 + 3, s1 + 18) := by
      refine go hX (fun pc => if pc = 279 then some 7 else none) 20 ?_
      refine And.intro (fun h => absurd h (by decide)) (fun _ => ?_)
      have ev := v_logged (s := a.1) (x := nI i) (w := 3) (b := i) (j := 3) rfl (by omega) rfl (by decide)
      rw [if_pos hlt, he] at ev
      exact rd_logged hTT hS ev hvl_0 (fun E M z => z) (fun Mc2 h2 => p279 Mc2 h2)
    have hl : ¬ G 22 ≤ nI i := by rw [g22]; exact nI_ge hil (by omega)
    obtain ⟨sc, s, S, R, L, tw, f, fc, len, B, c, wn, rfl⟩ := cw_p5 Mc hS.2.1
    refine go hX (fun pc => if pc = 267 then some 7 else none) 20 ?_
    exact ⟨in_lit (by decide), And.intro (fun h => absurd h hl) (fun _ => p267)⟩
set_option maxRecDepth 20000 in
theorem is_196 (hX : Clo kL_isSo Q X) (hTT : T + 100 < 2 ^ 31) (hQ : IsQ Q T t a G Qa La) (h22 : a.1.2.2.length ≤ 10) : ∀ (d i : Nat) (Mc : AM) (cc ss : Nat), i + d = 55 → LJ T t a G Qa La Mc → d + 59 + 1 ≤ cc → 6 * (d + 59 + 1) ≤ ss → X 196 (isL (nI i) x6) [] (Mc ++ g3 G Qa La) (cc, ss) := by
  intro d
  induction d with
  | zero =>
    intro i Mc cc ss hi hS hc hs
    have p255 : X 255 (isL (nI i) x6) [] (Mc ++ g3 G Qa La) (cc, ss) := by
      refine go hX (fun pc => if pc = 258 then some 7 else none) 20 ?_
      exact is_258 (X := X) hX hTT hQ h22 a.1.2.2.length 0 Mc cc ss (by omega) hS (by omega) (by omega)
    refine go hX (fun pc => if pc = 255 then some 7 else none) 20 ?_
    exact And.intro (fun _ => p255) (fun h => absurd (nI_le (a := 55) (by omega) (by omega)) h)
  | succ d ih =>
    intro i Mc cc ss hi hS hc hs
    obtain ⟨c1, s1, rfl, rfl, hc1, hs1⟩ := cr1 (d := d + 59 + 1) (by omega) (by omega)
    have hT := hS.2.2.2.1
    have g22 : G 22 = nI a.1.2.2.length := hT.1.2.2
    have e5 : (5 : Int32) * G 22 = nI (5 * a.1.2.2.length) := by rw [g22]; exact five_nI _
    have ed : nI i / 5 = nI (i / 5) := div_nI (k := 5) (by omega) (by decide)
    have em : nI i % 5 = nI (i % 5) := mod_nI (k := 5) (by omega) (by decide)
    obtain ⟨v, hv⟩ : ∃ v : Int32, (if nI (i / 5) < nI a.1.2.2.length then rf (a.1.2.2.getD (i / 5) d0) (i % 5) else -1) = v := ⟨_, rfl⟩
    have p247 : ∀ Mc1, LJ T t a G Qa La Mc1 → X 247 (isL (nI i) x6) [.int 1] (Mc1 ++ g3 G Qa La) (c1, s1) := by
      intro Mc1 h1
      refine go hX (fun pc => if pc = 196 then some 7 else none) 20 ?_
      have := ih (i + 1) Mc1 c1 s1 (by omega) h1 (by omega) (by omega)
      rw [← nI_1] at this
      exact this
    have p220 : ∀ Mc1, LJ T t a G Qa La Mc1 → X 220 (isL (nI i) x6) [.int v] (Mc1 ++ g3 G Qa La) (c1, s1) := by
      intro Mc1 h1
      have h1' := h1
      obtain ⟨sc, s, S, R, L, tw, f, fc, len, B, c, wn, rfl⟩ := cw_p5 Mc1 h1.2.1
      refine go hX (fun pc => if pc = 247 then some 7 else none) 40 ?_
      refine ⟨in_lit (by decide), And.intro (fun h => And.intro (fun h2 => absurd ?_ h2) (fun _ => p247 _ h1')) (fun h => ⟨?_, And.intro (fun h2 => absurd ?_ h2) (fun _ => p247 _ h1')⟩)⟩
      · have h' : (5 : Int32) * G 22 ≤ nI i := h
        rw [e5] at h'
        have h3 := (nI_leI (by omega) (by omega)).mp h'
        rw [← hv, if_neg (nI_nlt (by omega) (by omega))]
      · have h' : ¬ (5 : Int32) * G 22 ≤ nI i := h
        rw [e5] at h'
        have h3 : ¬ 5 * a.1.2.2.length ≤ i := fun z => h' (nI_le z (by omega))
        exact in_nI (by omega) (by decide)
      · have h' : ¬ (5 : Int32) * G 22 ≤ nI i := h
        rw [e5] at h'
        have h3 : ¬ 5 * a.1.2.2.length ≤ i := fun z => h' (nI_le z (by omega))
        show v = La (nI i).toNatClampNeg
        have h4 : i / 5 < a.1.2.2.length := by omega
        rw [← hv, if_pos (nI_lt h4 (by omega)), nI_clamp (by omega), ← row_q hT.2.2 h4 (j := i % 5) (Nat.mod_lt _ (by decide)), show 5 * (i / 5) + i % 5 = i by omega]
    refine go hX (fun pc => if pc = 220 then some 7 else none) 20 ?_
    have d5 : ¬ (5 : Int32) = 0 := by decide
    refine And.intro (fun h => absurd h (nI_ge (b := 55) (by omega) (by decide))) (fun _ => And.intro (fun h => absurd h (by decide)) (fun _ => ⟨d5, d5, ?_⟩))
    have ev := v_logged (s := a.1) (x := nI i / 5) (w := nI i % 5) (b := i / 5) (j := i % 5) ed (by omega) em (by omega)
    rw [hv] at ev
    exact rd_logged hTT hS ev hvl_0 (fun E M z => z) (fun Mc1 h1 => p220 Mc1 h1)
