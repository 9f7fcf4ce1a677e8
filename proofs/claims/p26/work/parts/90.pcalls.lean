/-! ===== PlateArm: the calls that change ===== -/
variable {Q : AQ} {mc ms T n : Nat} {S L B b : Nat → Int32} {R fc : Nat → Nat → Int32} {s : Sg} {c : Scn} {f : Nat → Option Nat} {tw : Wd} {wn : Nat → Wd} {a : Kp} {M : AM} {ps : List Sg}
def CW (T : Nat) (a : Kp) (n : Nat) (b : Nat → Int32) (M : AM) : Prop := ∃ (S : Nat → Int32) (R : Nat → Nat → Int32) (L : Nat → Int32) (tw : Wd) (f : Nat → Option Nat) (fc : Nat → Nat → Int32) (B : Nat → Int32) (c : Scn) (wn : Nat → Wd), M = p5 (nI a.2.length) a.1 S R L tw f fc (nI n) B c (wins wn) ∧ CS T a.1 S R L ∧ a.2.length ≤ 4 ∧ SvR T f wn a.2 ∧ SC c ∧ TB (nI n) B b n
theorem mkCW (hC : CS T s S R L) (hl : ps.length ≤ 4) (hV : SvR T f wn ps) (hS : SC c) (hT : TB (nI n) B b n) : CW T (s, ps) n b (p5 (nI ps.length) s S R L tw f fc (nI n) B c (wins wn)) := ⟨S, R, L, tw, f, fc, B, c, wn, rfl, hC, hl, hV, hS, hT⟩
theorem CW.mono {T1 : Nat} (h : CW T a n b M) (hT : T ≤ T1) : CW T1 a n b M := by
  obtain ⟨S, R, L, tw, f, fc, B, c, wn, e, h1, h2, h3, h4, h5⟩ := h
  exact ⟨S, R, L, tw, f, fc, B, c, wn, e, h1.mono hT, h2, h3.mono hT, h4, h5⟩
theorem push4 (h : ps.length ≤ 4) : (pushS ps s).length ≤ 4 := by rw [pushS_len h]; omega
theorem cs_put {t c1 : Int32} (hC : CS T s S R L) : CS T (putS s t c1) S R L := by
  refine ⟨fun j hj => ?_, fun k r hr => absurd (show ([] : List Rq)[k]? = some r from hr) (by simp), 0, 0, rfl, rfl, Nat.le_refl _, Nat.zero_le _, rfl, fun b e he => absurd (show ([] : List Rq)[b]? = some e from he) (by simp)⟩
  rw [hC.1 j hj]
  show s.1 (2 + j) = putU s.1 t c1 (2 + j)
  unfold putU
  rw [if_neg (by omega), if_neg (by omega), if_neg (by omega), if_neg (by omega)]
theorem cs_add {tr se de : Int32} (hC : CS T s S R L) : CS (T + 1) (addS s tr se de) S (fun m => upd (R m) s.2.1.length (rf (s.1 7, tr, se, de, s.1 6) m)) L := by
  obtain ⟨h1, h2, w, t, c8, c7, cw, ct, cl⟩ := hC
  refine ⟨fun j hj => ?_, fun k r hr j hj => ?_, w, t + 1, c8, ?_, ?_, by omega, cl⟩
  · show S j = upd s.1 7 _ (2 + j)
    rw [upd_o (by omega)]
    exact h1 j hj
  · have hr' : (s.2.1 ++ [(s.1 7, tr, se, de, s.1 6)])[k]? = some r := hr
    show upd (R j) s.2.1.length _ k = _
    rcases Nat.lt_or_ge k s.2.1.length with hk | hk
    · rw [List.getElem?_append_left hk] at hr'
      rw [upd_o (by omega)]
      exact h2 k r hr' j hj
    · rw [List.getElem?_append_right hk] at hr'
      have hl := (List.getElem?_eq_some_iff.mp hr').1
      rw [List.length_singleton] at hl
      rw [show k - s.2.1.length = 0 by omega] at hr'
      cases hr'
      rw [show k = s.2.1.length by omega, upd_i]
  · show upd s.1 7 (s.1 7 + 1) 7 = _
    rw [upd_i, c7, nI_1]
  · show w + (s.2.1 ++ [_]).length ≤ t + 1
    rw [List.length_append, List.length_singleton]
    omega
theorem dropAt_get : ∀ (rs : List Rq) (x i : Nat), x < rs.length → (dropAt rs x)[i]? = rs[shf x i]?
  | [], x, i, h => absurd h (Nat.not_lt_zero _)
  | r :: rs, 0, i, h => by
    show rs[i]? = (r :: rs)[shf 0 i]?
    unfold shf
    rw [if_neg (Nat.not_lt_zero _)]
    rfl
  | r :: rs, x + 1, 0, h => by
    show some r = (r :: rs)[shf (x + 1) 0]?
    unfold shf
    rw [if_pos (Nat.succ_pos x)]
    rfl
  | r :: rs, x + 1, i + 1, h => by
    show (dropAt rs x)[i]? = _
    rw [dropAt_get rs x i (by rw [List.length_cons] at h; omega)]
    have e : shf (x + 1) (i + 1) = shf x i + 1 := by
      unfold shf
      by_cases hi : i < x
      · rw [if_pos hi, if_pos (by omega)]
      · rw [if_neg hi, if_neg (by omega)]
    rw [e]
    rfl
theorem dropAt_len {rs : List Rq} {x : Nat} (h : x < rs.length) : (dropAt rs x).length = rs.length - 1 := by
  unfold dropAt
  rw [List.length_append, List.length_take, List.length_drop]
  omega
theorem cs_drop {R1 : Nat → Nat → Int32} {x : Nat} (hC : CS T s S R L) (hx : x < s.2.1.length) (hR : ∀ j k, k < s.2.1.length - 1 → R1 j k = R j (shf x k)) : CS T (s.1, dropAt s.2.1 x, s.2.2) S R1 L := by
  obtain ⟨h1, h2, w, t, c8, c7, cw, ct, cl⟩ := hC
  refine ⟨h1, fun k r hr j hj => ?_, w, t, c8, c7, ?_, ct, cl⟩
  · have hr' : (dropAt s.2.1 x)[k]? = some r := hr
    have hl := (List.getElem?_eq_some_iff.mp hr').1
    rw [dropAt_len hx] at hl
    rw [dropAt_get _ _ _ hx] at hr'
    rw [hR j k hl]
    exact h2 _ r hr' j hj
  · show w + (dropAt s.2.1 x).length ≤ t
    rw [dropAt_len hx]
    omega
theorem cs_set {j : Nat} {v : Int32} (hC : CS T s S R L) (hj : j < 4) : CS T (upd s.1 (2 + j) v, s.2) (upd S j v) R L := by
  obtain ⟨h1, h2, w, t, c8, c7, cw, ct, cl⟩ := hC
  refine ⟨fun i hi => ?_, h2, w, t, (upd_o (by omega)).trans c8, (upd_o (by omega)).trans c7, cw, ct, cl⟩
  show upd S j v i = upd s.1 (2 + j) v (2 + i)
  by_cases hij : i = j
  · rw [hij, upd_i, upd_i]
  · rw [upd_o hij, upd_o (by omega)]
    exact h1 i hi
set_option maxRecDepth 20000 in
theorem p_plate {t c1 : Int32} (hA : AInv T a) (hW : CW T a n b M) (hQ : ∀ M1, CW T (plateA true t c1 a).2.2 n b M1 → Q (exO IAE IAE (plateA true t c1 a).1 (plateA true t c1 a).2.1) M1) : Tr tX9_plate 1 6 [.ref 0, .int t, .int c1] M Q := by
  have hW0 := hW
  obtain ⟨S, R, L, tw, f, fc, B, c, wn, rfl, hC, hl, hV, hS, hT⟩ := hW
  refine Tr.of sX9_plate (by decide +kernel) (Nat.le_of_ble_eq_true rfl) fun X hX => ?_
  unfold plateA at hQ
  have p40 : plateFit t c1 = true → ∀ f1 wn1, SvR T f1 wn1 (pushS a.2 a.1) → X 40 [some (.ref 0), some (.int t), some (.int c1), some (.int (nI a.1.2.1.length))] [] (p5 (nI (pushS a.2 a.1).length) (putS a.1 t c1) S R L tw f1 fc (nI n) B c (wins wn1)) (1, 6) := by
    intro hf f1 wn1 hV1
    rw [if_pos hf, exO_0] at hQ
    refine go hX (fun _ => none) 40 ?_
    exact hQ _ (mkCW (cs_put hC) (push4 hl) hV1 hS hT)
  have p20 : plateFit t c1 = true → ∀ f1 wn1, SvR T f1 wn1 (pushS a.2 a.1) → X 20 [some (.ref 0), some (.int t), some (.int c1), none] [] (p5 (nI (pushS a.2 a.1).length) a.1 S R L tw f1 fc (nI n) B c (wins wn1)) (1, 6) := by
    intro hf f1 wn1 hV1
    refine go hX (fun pc => if pc = 40 then some 4 else none) 40 ?_
    refine Tr.ap eS pS (c_putIn (u := a.1.1) (n := nI a.1.2.1.length) (S := S) (R := R) (L := L) (t := t) (c := c1) ?_) rfl rfl rfl rfl
    exact p40 hf f1 wn1 hV1
  have p16 : plateFit t c1 = true → X 16 [some (.ref 0), some (.int t), some (.int c1), none] [] (p5 (nI a.2.length) a.1 S R L tw f fc (nI n) B c (wins wn)) (1, 6) := by
    intro hf
    refine go hX (fun pc => if pc = 20 then some 4 else none) 40 ?_
    refine p_save hA.1 hC rfl hl hV (fun f1 wn1 hV1 => ?_)
    exact p20 hf f1 wn1 hV1
  refine go hX (fun pc => if pc = 16 then some 4 else none) 40 ?_
  refine p_plateFits ?_
  cases hf : plateFit t c1 with
  | true => exact And.intro (fun _ => p16 hf) (fun z => absurd z (by decide))
  | false =>
    rw [hf, if_neg (by decide), exO_1] at hQ
    exact And.intro (fun z => absurd rfl z) (fun _ => hQ _ hW0)
theorem Inv.p01 (hI : Inv T s) : 1 ≤ (s.1 0).toInt ∧ 1 ≤ (s.1 1).toInt := by
  have h := hI.1
  have h1 : 4 ≤ (s.1 0).toInt := h.1.1
  have h2 : 3 ≤ (s.1 1).toInt := h.2.1.1
  omega
set_option maxRecDepth 20000 in
theorem p_request {tr se de : Int32} (hA : AInv T a) (hW : CW T a n b M) (hQ : ∀ M1, CW (T + 1) (requestA true tr se de a).2.2 n b M1 → Q (exO IAE ISE (requestA true tr se de a).1 (requestA true tr se de a).2.1) M1) : Tr tX9_request 1 6 [.ref 0, .int tr, .int se, .int de] M Q := by
  have hW0 := hW
  obtain ⟨S, R, L, tw, f, fc, B, c, wn, rfl, hC, hl, hV, hS, hT⟩ := hW
  have hm := hA.1.2.1
  refine Tr.of sX9_request (by decide +kernel) (Nat.le_of_ble_eq_true rfl) fun X hX => ?_
  unfold requestA at hQ
  have p43 : reqFit a.1.1 tr se de = true → ¬ a.1.2.1.length = 12 → ∀ f1 wn1, SvR T f1 wn1 (pushS a.2 a.1) → X 43 [some (.ref 0), some (.int tr), some (.int se), some (.int de)] [] (p5 (nI (pushS a.2 a.1).length) a.1 S R L tw f1 fc (nI n) B c (wins wn1)) (1, 6) := by
    intro hf h12 f1 wn1 hV1
    rw [if_pos hf, if_neg h12, exO_0] at hQ
    have hq := hQ _ (mkCW (tw := tw) (fc := fc) (cs_add (tr := tr) (se := se) (de := de) hC) (push4 hl) (hV1.mono (Nat.le_succ T)) hS hT)
    unfold p5 pw2 pwS addS at hq
    rw [List.length_append, List.length_singleton, ← nI_1] at hq
    refine go hX (fun _ => none) 40 ?_
    refine Tr.ap eR pR (c_add (R := R) (n := a.1.2.1.length) rfl (by omega) ?_) rfl rfl rfl rfl
    exact hq
  have p39 : reqFit a.1.1 tr se de = true → ¬ a.1.2.1.length = 12 → X 39 [some (.ref 0), some (.int tr), some (.int se), some (.int de)] [] (p5 (nI a.2.length) a.1 S R L tw f fc (nI n) B c (wins wn)) (1, 6) := by
    intro hf h12
    refine go hX (fun pc => if pc = 43 then some 4 else none) 40 ?_
    refine p_save hA.1 hC rfl hl hV (fun f1 wn1 hV1 => ?_)
    exact p43 hf h12 f1 wn1 hV1
  have p18 : reqFit a.1.1 tr se de = true → X 18 [some (.ref 0), some (.int tr), some (.int se), some (.int de)] [] (p5 (nI a.2.length) a.1 S R L tw f fc (nI n) B c (wins wn)) (1, 6) := by
    intro hf
    refine go hX (fun pc => if pc = 39 then some 4 else none) 40 ?_
    refine Tr.ap eR pR (c_isFull (R := R) ?_) rfl rfl rfl rfl
    by_cases h12 : a.1.2.1.length = 12
    · rw [z01_t (show (12 : Int32) ≤ nI a.1.2.1.length by rw [h12]; decide)]
      rw [if_pos hf, if_pos h12, exO_2] at hQ
      exact And.intro (fun z => absurd z (by decide)) (fun _ => hQ _ (hW0.mono (Nat.le_succ T)))
    · rw [z01_f (show ¬ (12 : Int32) ≤ nI a.1.2.1.length from nI_ge (b := 12) (by omega) (by decide))]
      exact And.intro (fun _ => p39 hf h12) (fun z => absurd rfl z)
  refine go hX (fun pc => if pc = 18 then some 4 else none) 40 ?_
  refine p_requestFits hA.1.p01.1 hA.1.p01.2 ?_
  cases hf : reqFit a.1.1 tr se de with
  | true => exact And.intro (fun _ => p18 hf) (fun z => absurd z (by decide))
  | false =>
    rw [hf, if_neg (by decide), exO_1] at hQ
    exact And.intro (fun z => absurd rfl z) (fun _ => hQ _ (hW0.mono (Nat.le_succ T)))
set_option maxRecDepth 20000 in
theorem p_cancel {x : Int32} (hA : AInv T a) (hW : CW T a n b M) (hQ : ∀ M1, CW T (cancelA true x a).2.2 n b M1 → Q (exO IOE IOE (cancelA true x a).1 (cancelA true x a).2.1) M1) : Tr tX9_cancel 1 6 [.ref 0, .int x] M Q := by
  have hW0 := hW
  obtain ⟨S, R, L, tw, f, fc, B, c, wn, rfl, hC, hl, hV, hS, hT⟩ := hW
  have hm := hA.1.2.1
  refine Tr.of sX9_cancel (by decide +kernel) (Nat.le_of_ble_eq_true rfl) fun X hX => ?_
  unfold cancelA at hQ
  have p29 : ∀ k, fndL x a.1.2.1 = some k → ∀ f1 wn1, SvR T f1 wn1 (pushS a.2 a.1) → X 29 [some (.ref 0), some (.int x), some (.int (nI k)), none] [] (p5 (nI (pushS a.2 a.1).length) a.1 S R L tw f1 fc (nI n) B c (wins wn1)) (1, 6) := by
    intro k hf f1 wn1 hV1
    have hk := fndL_lt hf
    rw [hf, exO_0] at hQ
    have v0 : vp_in (nI k) 12 := in_nI (by omega) (by decide)
    have v1 : (nI k).toNatClampNeg = k := nI_c (by omega)
    refine go hX (fun _ => none) 60 ?_
    refine ⟨v0, ?_⟩
    refine Tr.ap eR pR (c_removeAt (R := R) (n := a.1.2.1.length) (x := k) rfl hm rfl hk (fun R1 hR1 => ?_)) rfl rfl rfl rfl
    have hq := hQ _ (mkCW (tw := tw) (fc := fc) (cs_drop hC hk hR1) (push4 hl) hV1 hS hT)
    unfold p5 pw2 pwS at hq
    rw [dropAt_len hk, ← sub_nI (a := a.1.2.1.length) (b := 1) (by omega)] at hq
    have e4 : R 4 k = (a.1.2.1.getD k d0).2.2.2.2 := rq_row hC.2.1 hk (by decide)
    dsimp only at hq
    rw [← e4] at hq
    rw [v1]
    exact hq
  have p25 : ∀ k, fndL x a.1.2.1 = some k → X 25 [some (.ref 0), some (.int x), some (.int (nI k)), none] [] (p5 (nI a.2.length) a.1 S R L tw f fc (nI n) B c (wins wn)) (1, 6) := by
    intro k hf
    refine go hX (fun pc => if pc = 29 then some 4 else none) 40 ?_
    refine p_save hA.1 hC rfl hl hV (fun f1 wn1 hV1 => ?_)
    exact p29 k hf f1 wn1 hV1
  refine go hX (fun pc => if pc = 25 then some 4 else none) 40 ?_
  refine Tr.ap eR pR (c_indexOf (R := R) (n := a.1.2.1.length) rfl hm ?_) rfl rfl rfl rfl
  rw [fnd_eq hC.2.1]
  cases hf : fndL x a.1.2.1 with
  | none =>
    rw [hf, exO_1] at hQ
    exact And.intro (fun z => absurd rfl z) (fun _ => hQ _ hW0)
  | some k =>
    have hk := fndL_lt hf
    exact And.intro (fun _ => p25 k hf) (fun z => absurd z (ix_ne (by omega)))
set_option maxRecDepth 20000 in
theorem p_set {w v : Int32} (hA : AInv T a) (hW : CW T a n b M) (hQ : ∀ M1, CW T (setA true w v a).2.2 n b M1 → Q (exO IAE IAE (setA true w v a).1 (setA true w v a).2.1) M1) : Tr tX9_set 1 6 [.ref 0, .int w, .int v] M Q := by
  have hW0 := hW
  obtain ⟨S, R, L, tw, f, fc, B, c, wn, rfl, hC, hl, hV, hS, hT⟩ := hW
  refine Tr.of sX9_set (by decide +kernel) (Nat.le_of_ble_eq_true rfl) fun X hX => ?_
  unfold setA at hQ
  have p20 : setFit w v = true → ∀ f1 wn1, SvR T f1 wn1 (pushS a.2 a.1) → X 20 [some (.ref 0), some (.int w), some (.int v), none] [] (p5 (nI (pushS a.2 a.1).length) a.1 S R L tw f1 fc (nI n) B c (wins wn1)) (1, 6) := by
    intro hf f1 wn1 hV1
    rw [if_pos hf, exO_0] at hQ
    obtain ⟨j, hj, hw, hwn⟩ := setFit_w hf
    have v0 : vp_in w 4 := by rw [hw]; exact in_nI hj (by decide)
    rw [hwn] at hQ
    have eS := hC.1 j hj
    have hq := hQ _ (mkCW (tw := tw) (fc := fc) (cs_set (v := v) hC hj) (push4 hl) hV1 hS hT)
    rw [← eS, ← hwn] at hq
    refine go hX (fun _ => none) 40 ?_
    refine ⟨v0, v0, ?_⟩
    rw [hwn] at hq ⊢
    match j, hj, hq with
    | 0, _, hq => exact hq
    | 1, _, hq => exact hq
    | 2, _, hq => exact hq
    | 3, _, hq => exact hq
  have p16 : setFit w v = true → X 16 [some (.ref 0), some (.int w), some (.int v), none] [] (p5 (nI a.2.length) a.1 S R L tw f fc (nI n) B c (wins wn)) (1, 6) := by
    intro hf
    refine go hX (fun pc => if pc = 20 then some 4 else none) 40 ?_
    refine p_save hA.1 hC rfl hl hV (fun f1 wn1 hV1 => ?_)
    exact p20 hf f1 wn1 hV1
  refine go hX (fun pc => if pc = 16 then some 4 else none) 40 ?_
  refine p_settingFits ?_
  cases hf : setFit w v with
  | true => exact And.intro (fun _ => p16 hf) (fun z => absurd z (by decide))
  | false =>
    rw [hf, if_neg (by decide), exO_1] at hQ
    exact And.intro (fun z => absurd rfl z) (fun _ => hQ _ hW0)
set_option maxRecDepth 20000 in
theorem p_pass {t : Int32} (hA : AInv T a) (hTT : T + 12 < 2 ^ 31) (hW : CW T a n b M) (hQ : ∀ M1, CW T (passA true t a).2.2 n b M1 → Q (exO IAE ISE (passA true t a).1 (passA true t a).2.1) M1) : Tr tX9_pass 1 6 [.ref 0, .int t] M Q := by
  have hW0 := hW
  obtain ⟨S, R, L, tw, f, fc, B, c, wn, rfl, hC, hl, hV, hS, hT⟩ := hW
  refine Tr.of sX9_pass (by decide +kernel) (Nat.le_of_ble_eq_true rfl) fun X hX => ?_
  unfold passA at hQ
  have p54 : inI t 1 99 = true → a.1.1 6 + t ≤ 9999 → ∀ f1 wn1 R1 L1, SvR T f1 wn1 (pushS a.2 a.1) → CS T (passS t.toNatClampNeg a.1) S R1 L1 → X 54 [some (.ref 0), some (.int t), some (.int (a.1.1 8))] [] (p5 (nI (pushS a.2 a.1).length) (passS t.toNatClampNeg a.1) S R1 L1 tw f1 fc (nI n) B c (wins wn1)) (1, 6) := by
    intro h1 h2 f1 wn1 R1 L1 hV1 hC1
    rw [if_pos h1, if_pos h2, exO_0] at hQ
    refine go hX (fun _ => none) 40 ?_
    exact hQ _ (mkCW hC1 (push4 hl) hV1 hS hT)
  have p35 : inI t 1 99 = true → a.1.1 6 + t ≤ 9999 → ∀ f1 wn1, SvR T f1 wn1 (pushS a.2 a.1) → X 35 [some (.ref 0), some (.int t), none] [] (p5 (nI (pushS a.2 a.1).length) a.1 S R L tw f1 fc (nI n) B c (wins wn1)) (1, 6) := by
    intro h1 h2 f1 wn1 hV1
    have g := inI_iff.mp h1
    have e99 := litI.2.2.2.2.2.2.2.2.2
    rw [i32_1, e99] at g
    have hc := of_clamp (v := t) (by omega)
    have hcn : t.toNatClampNeg = t.toInt.toNat := rfl
    refine go hX (fun pc => if pc = 54 then some 3 else none) 40 ?_
    refine Tr.ap eS pS (c_passTicks (s := a.1) (S := S) (R := R) (L := L) (k := t.toNatClampNeg) hc (by omega) hA.1 hTT hC (fun R1 L1 hC1 => ?_)) rfl rfl rfl rfl
    exact p54 h1 h2 f1 wn1 R1 L1 hV1 hC1
  have p31 : inI t 1 99 = true → a.1.1 6 + t ≤ 9999 → X 31 [some (.ref 0), some (.int t), none] [] (p5 (nI a.2.length) a.1 S R L tw f fc (nI n) B c (wins wn)) (1, 6) := by
    intro h1 h2
    refine go hX (fun pc => if pc = 35 then some 3 else none) 40 ?_
    refine p_save hA.1 hC rfl hl hV (fun f1 wn1 hV1 => ?_)
    exact p35 h1 h2 f1 wn1 hV1
  have p15 : inI t 1 99 = true → X 15 [some (.ref 0), some (.int t), none] [] (p5 (nI a.2.length) a.1 S R L tw f fc (nI n) B c (wins wn)) (1, 6) := by
    intro h1
    refine go hX (fun pc => if pc = 31 then some 3 else none) 40 ?_
    refine p_timeIsLeft ?_
    by_cases h2 : a.1.1 6 + t ≤ 9999
    · rw [z01_t h2]
      exact And.intro (fun _ => p31 h1 h2) (fun z => absurd z (by decide))
    · rw [if_pos h1, if_neg h2, exO_2] at hQ
      rw [z01_f h2]
      exact And.intro (fun z => absurd rfl z) (fun _ => hQ _ hW0)
  refine go hX (fun pc => if pc = 15 then some 3 else none) 40 ?_
  refine p_ticksFit ?_
  cases h1 : inI t 1 99 with
  | true => exact And.intro (fun _ => p15 h1) (fun z => absurd z (by decide))
  | false =>
    rw [h1, if_neg (by decide), exO_1] at hQ
    exact And.intro (fun z => absurd rfl z) (fun _ => hQ _ hW0)
theorem last_6 (u : Nat → Int32) : lastU u 6 = u 6 + 1 := by
  unfold lastU
  rw [upd_i]
theorem tick_6 (s : Sg) : (tickS s).1 6 = s.1 6 + 1 := by
  have hb := bgn_6 s
  show (endS (bgnS s)).1 6 = _
  rw [← hb]
  unfold endS
  split
  · exact last_6 _
  · exact last_6 _
theorem run_6 : ∀ (d : Nat) (s : Sg), (runS d s).2.1 6 = s.1 6 + nI (runS d s).1
  | 0, s => by show s.1 6 = s.1 6 + nI 0; rw [nI_0, Int32.add_zero]
  | d + 1, s => by
    by_cases h0 : s.2.1.length = 0
    · have e : runS (d + 1) s = (0, s) := if_pos h0
      rw [e]
      show s.1 6 = s.1 6 + nI 0
      rw [nI_0, Int32.add_zero]
    · have e : runS (d + 1) s = ((runS d (tickS s)).1 + 1, (runS d (tickS s)).2) := if_neg h0
      rw [e]
      show (runS d (tickS s)).2.1 6 = _
      rw [run_6 d (tickS s), tick_6, Int32.add_assoc]
      show _ = s.1 6 + nI ((runS d (tickS s)).1 + 1)
      rw [nI_succ, Int32.add_comm 1]
set_option maxRecDepth 20000 in
theorem p_finish (hA : AInv T a) (hTT : T + 12 < 2 ^ 31) (hW : CW T a n b M) (hQ : ∀ M1, CW T (finishA true a).2.2 n b M1 → Q (exO ISE ISE (finishA true a).1 (finishA true a).2.1) M1) : Tr tX9_finish 1 6 [.ref 0] M Q := by
  obtain ⟨S, R, L, tw, f, fc, B, c, wn, rfl, hC, hl, hV, hS, hT⟩ := hW
  have hIr := inv_run 500 a.1 hA.1
  refine Tr.of sX9_finish (by decide +kernel) (Nat.le_of_ble_eq_true rfl) fun X hX => ?_
  unfold finishA at hQ
  rw [run_6] at hQ
  have p50 : a.1.1 6 + nI (runS 500 a.1).1 ≤ 9999 → ∀ f1 wn1 S2 R2 L2 tw1, SvR T f1 wn1 (pushS a.2 a.1) → CS T (runS 500 a.1).2 S2 R2 L2 → X 50 [some (.ref 0), some (.int (nI (runS 500 a.1).1))] [] (p5 (nI (pushS a.2 a.1).length) (runS 500 a.1).2 S2 R2 L2 tw1 f1 fc (nI n) B c (wins wn1)) (1, 6) := by
    intro h2 f1 wn1 S2 R2 L2 tw1 hV1 hC1
    rw [if_pos h2, exO_0] at hQ
    refine go hX (fun _ => none) 40 ?_
    exact hQ _ (mkCW hC1 (push4 hl) hV1 hS hT)
  have p39 : a.1.1 6 + nI (runS 500 a.1).1 ≤ 9999 → ∀ f1 wn1 S2 R2 L2, SvR T f1 wn1 (pushS a.2 a.1) → CS T (runS 500 a.1).2 S2 R2 L2 → X 39 [some (.ref 0), some (.int (nI (runS 500 a.1).1))] [] (p5 (nI (pushS a.2 a.1).length) a.1 S R L ((runS 500 a.1).2.1, nI (runS 500 a.1).2.2.1.length, S2, R2, L2) f1 fc (nI n) B c (wins wn1)) (1, 6) := by
    intro h2 f1 wn1 S2 R2 L2 hV1 hC1
    refine go hX (fun pc => if pc = 50 then some 2 else none) 40 ?_
    refine Tr.ap eST pST (c_scopy (u := a.1.1) (n := nI a.1.2.1.length) (S := S) (R := R) (L := L) (u1 := (runS 500 a.1).2.1) (n1 := nI (runS 500 a.1).2.2.1.length) (S1 := S2) (R1 := R2) (L1 := L2) hIr.r01 (fun S3 R3 L3 a1 a2 a3 => ?_)) rfl rfl rfl rfl
    exact p50 h2 f1 wn1 S3 R3 L3 ((runS 500 a.1).2.1, nI (runS 500 a.1).2.2.1.length, S2, R2, L2) hV1 (cs_copy hC1 hIr.2.1 a1 a2 a3)
  have p35 : a.1.1 6 + nI (runS 500 a.1).1 ≤ 9999 → ∀ S2 R2 L2, CS T (runS 500 a.1).2 S2 R2 L2 → X 35 [some (.ref 0), some (.int (nI (runS 500 a.1).1))] [] (p5 (nI a.2.length) a.1 S R L ((runS 500 a.1).2.1, nI (runS 500 a.1).2.2.1.length, S2, R2, L2) f fc (nI n) B c (wins wn)) (1, 6) := by
    intro h2 S2 R2 L2 hC1
    refine go hX (fun pc => if pc = 39 then some 2 else none) 40 ?_
    refine p_save hA.1 hC rfl hl hV (fun f1 wn1 hV1 => ?_)
    exact p39 h2 f1 wn1 S2 R2 L2 hV1 hC1
  have p18 : ∀ S2 R2 L2, CS T (runS 500 a.1).2 S2 R2 L2 → X 18 [some (.ref 0), none] [.int (nI (runS 500 a.1).1)] (p5 (nI a.2.length) a.1 S R L ((runS 500 a.1).2.1, nI (runS 500 a.1).2.2.1.length, S2, R2, L2) f fc (nI n) B c (wins wn)) (1, 6) := by
    intro S2 R2 L2 hC1
    refine go hX (fun pc => if pc = 35 then some 2 else none) 40 ?_
    refine p_timeIsLeft ?_
    by_cases h2 : a.1.1 6 + nI (runS 500 a.1).1 ≤ 9999
    · rw [z01_t h2]
      exact And.intro (fun _ => p35 h2 S2 R2 L2 hC1) (fun z => absurd z (by decide))
    · rw [if_neg h2, exO_1] at hQ
      rw [z01_f h2]
      exact And.intro (fun z => absurd rfl z) (fun _ => hQ _ (mkCW hC hl hV hS hT))
  have p11 : ∀ S2 R2 L2, CS T a.1 S2 R2 L2 → X 11 [some (.ref 0), none] [] (p5 (nI a.2.length) a.1 S R L (a.1.1, nI a.1.2.1.length, S2, R2, L2) f fc (nI n) B c (wins wn)) (1, 6) := by
    intro S2 R2 L2 hC2
    refine go hX (fun pc => if pc = 18 then some 2 else none) 40 ?_
    refine Tr.ap eT pT (c_passUntil (s := a.1) (S := S2) (R := R2) (L := L2) hA.1 hTT hC2 (fun R3 L3 hC3 => ?_)) rfl rfl rfl rfl
    exact p18 S2 R3 L3 hC3
  refine go hX (fun pc => if pc = 11 then some 2 else none) 40 ?_
  refine Tr.ap eTS pTS (c_scopy (u := tw.1) (n := tw.2.1) (S := tw.2.2.1) (R := tw.2.2.2.1) (L := tw.2.2.2.2) (u1 := a.1.1) (n1 := nI a.1.2.1.length) (S1 := S) (R1 := R) (L1 := L) hA.1.r01 (fun S2 R2 L2 a1 a2 a3 => ?_)) rfl rfl rfl rfl
  exact p11 S2 R2 L2 (cs_copy hC hA.1.2.1 a1 a2 a3)

